def rm_X4_thrown : Room := { frames := 0, cells := 0, slots := 0, locals := 0 }
set_option maxRecDepth 100000 in
set_option maxHeartbeats 8000000 in
theorem K_X4_thrown (l : Launch) (D : va_G) (cI cZ : ClassId) (md : Nat → Nat) (sz : Nat) (mth msz mrn mmy mdf mgu mhs mlv : Int32) (mba mgi mfi mle mst msu mtr mdi mfa mca : Nat → Int32) (r : (Int32)) (hf : f_X4_thrown mth = r) : Met l yX4_thrown wsX4_thrown rm_X4_thrown (PC D cI cZ sz [.ref (md 0)] (wM cI cZ md mth msz mrn mmy mdf mgu mhs mlv mba mgi mfi mle mst msu mtr mdi mfa mca)) (QI D cI cZ sz (wM cI cZ md mth msz mrn mmy mdf mgu mhs mlv mba mgi mfi mle mst msu mtr mdi mfa mca) r (wM cI cZ md mth msz mrn mmy mdf mgu mhs mlv mba mgi mfi mle mst msu mtr mdi mfa mca)) 0 0 (va_A (wM cI cZ md mth msz mrn mmy mdf mgu mhs mlv mba mgi mfi mle mst msu mtr mdi mfa mca) sz) := by
  refine mk_i (cc := cX4_thrown) (maxL := 1) (lv0 := [(0, .ref (md 0))]) (by decide) rfl (Nat.le_of_ble_eq_true rfl) rfl ?_
  intro p e s m args below meth c ls A Q H hx hb hml hown hts hK hP hD hA hS hl hR
  have hinX4 : ∀ w ∈ wsX40, w ∈ wsX4_thrown := by decide +kernel
  rw [f_X4_thrown] at hf
  refine lv_aload_n hx hb dX4_thrown_0 rfl (lv_at hl 0 rfl) ?_
  refine va_get (D := D) (ci := 4) (v := .int mth) (C := RX4) (T := TX4) (N := 18) hx hb hts hinX4 hown hK.1 hP 0 rfl rfl 0 (by decide) (hts (.fieldLink RX4 48 "GridpuzzleModel" "thrown" "I") (by decide +kernel)) (fun _ h9 => h9) rfl dX4_thrown_1 ?_
  cases hf
  exact hR _ _ _ _ _ _ rfl rfl hP hD hS dX4_thrown_4
def rm_X4_goesWell : Room := { frames := 0, cells := 0, slots := 0, locals := 0 }
set_option maxRecDepth 100000 in
set_option maxHeartbeats 8000000 in
theorem K_X4_goesWell (l : Launch) (D : va_G) (cI cZ : ClassId) (md : Nat → Nat) (sz : Nat) (mth msz mrn mmy mdf mgu mhs mlv : Int32) (mba mgi mfi mle mst msu mtr mdi mfa mca : Nat → Int32) (p1 : Int32) (r : (Int32 × Int32)) (hf : f_X4_goesWell mth p1 = r) : Met l yX4_goesWell wsX4_goesWell rm_X4_goesWell (PC D cI cZ sz [.ref (md 0), .int p1] (wM cI cZ md mth msz mrn mmy mdf mgu mhs mlv mba mgi mfi mle mst msu mtr mdi mfa mca)) (QI D cI cZ sz (wM cI cZ md mth msz mrn mmy mdf mgu mhs mlv mba mgi mfi mle mst msu mtr mdi mfa mca) r.1 (wM cI cZ md r.2 msz mrn mmy mdf mgu mhs mlv mba mgi mfi mle mst msu mtr mdi mfa mca)) 0 0 (va_A (wM cI cZ md mth msz mrn mmy mdf mgu mhs mlv mba mgi mfi mle mst msu mtr mdi mfa mca) sz) := by
  refine mk_z (cc := cX4_goesWell) (maxL := 2) (lv0 := [(0, .ref (md 0)), (1, .int p1)]) (by decide) rfl (Nat.le_of_ble_eq_true rfl) rfl ?_
  intro p e s m args below meth c ls A Q H hx hb hml hown hts hK hP hD hA hS hl hR
  have hinX4 : ∀ w ∈ wsX40, w ∈ wsX4_goesWell := by decide +kernel
  rw [f_X4_goesWell] at hf
  refine lv_aload_n hx hb dX4_goesWell_0 rfl (lv_at hl 0 rfl) ?_
  refine lv_iload_n hx hb dX4_goesWell_1 rfl (lv_at hl 1 rfl) ?_
  refine va_put (D := D) (ci := 4) (v := .int p1) (ty := .int) (C := RX4) (T := TX4) (N := 18) hx hb hts hinX4 tyX4 tyX4_ok nmX4 hown hK.1 hP hD hS 0 rfl rfl 0 (by decide) (hts (.fieldLink RX4 48 "GridpuzzleModel" "thrown" "I") (by decide +kernel)) (fun _ h9 => h9) rfl (by decide +kernel) rfl rfl (Nat.le_of_ble_eq_true rfl) dX4_goesWell_2 (fun H locs hP hD hS => ?_)
  have hP : va_P D vwCl (wM cI cZ md p1 msz mrn mmy mdf mgu mhs mlv mba mgi mfi mle mst msu mtr mdi mfa mca) H := hP
  have hD : va_D A (wM cI cZ md p1 msz mrn mmy mdf mgu mhs mlv mba mgi mfi mle mst msu mtr mdi mfa mca) := hD
  refine lv_iload_n hx hb dX4_goesWell_5 rfl (lv_at hl 1 rfl) ?_
  refine lv_if_ne (tgt := 13) hx hb dX4_goesWell_6 (by decide) (fun c_6 => ?_) (fun c_6 => ?_)
  · have hf := ite_f c_6 hf
    refine lv_iconst (v := 0) hx hb dX4_goesWell_13 (by decide) ?_
    cases hf
    exact hR _ _ _ _ _ _ (by decide) rfl rfl hP hD hS dX4_goesWell_14
  · have hf := ite_t c_6 hf
    refine lv_iconst (v := 1) hx hb dX4_goesWell_9 (by decide) ?_
    refine lv_goto (tgt := 14) hx hb dX4_goesWell_10 (by decide) ?_
    cases hf
    exact hR _ _ _ _ _ _ (by decide) rfl rfl hP hD hS dX4_goesWell_14
def rm_X4_in : Room := { frames := 0, cells := 0, slots := 0, locals := 0 }
set_option maxRecDepth 100000 in
set_option maxHeartbeats 8000000 in
theorem K_X4_in (l : Launch) (D : va_G) (cI cZ : ClassId)  (sz : Nat)  (p0 : Int32) (p1 : Int32) (p2 : Int32) (r : (Int32)) (hf : f_X4_in p0 p1 p2 = r) : Met l yX4_in wsX4_in rm_X4_in (PC D cI cZ sz [.int p0, .int p1, .int p2] (wE)) (QI D cI cZ sz (wE) r (wE)) 0 0 (va_A (wE) sz) := by
  refine mk_z (cc := cX4_in) (maxL := 3) (lv0 := [(0, .int p0), (1, .int p1), (2, .int p2)]) (by decide) rfl (Nat.le_of_ble_eq_true rfl) rfl ?_
  intro p e s m args below meth c ls A Q H hx hb hml hown hts hK hP hD hA hS hl hR
  rw [f_X4_in] at hf
  refine lv_iload_n hx hb dX4_in_0 rfl (lv_at hl 0 rfl) ?_
  refine lv_iload_n hx hb dX4_in_1 rfl (lv_at hl 1 rfl) ?_
  obtain ⟨k14, hk14, hf⟩ := jn_some hf
  have w14 : ∀ (_ : Unit), k14 () = r → ∀ (H : Heap) (locs : List Loc) (ls : Array Slot), va_P D vwCl (wE) H → va_D A (wE) → va_S A s.heap H locs → lv_has ls 3 [] → W p l e rm_X4_in s m args below meth c H locs 0 0 Q (F0 m 14 ls []) := by
    intro _ hf H locs ls hP hD hS hl
    rw [hk14] at hf
    try dsimp only at hf
    refine lv_iconst (v := 0) hx hb dX4_in_14 (by decide) ?_
    cases hf
    exact hR _ _ _ _ _ _ (by decide) rfl rfl hP hD hS dX4_in_15
  refine lv_icmp_lt (tgt := 14) hx hb dX4_in_2 (by decide) (fun c_2 => ?_) (fun c_2 => ?_)
  · have hf := ite_t c_2 hf
    exact w14 () hf _ _ _ hP hD hS (lv_sub hl [] rfl)
  · have hf := ite_f c_2 hf
    refine lv_iload_n hx hb dX4_in_5 rfl (lv_at hl 0 rfl) ?_
    refine lv_iload_n hx hb dX4_in_6 rfl (lv_at hl 2 rfl) ?_
    refine lv_icmp_gt (tgt := 14) hx hb dX4_in_7 (by decide) (fun c_7 => ?_) (fun c_7 => ?_)
    · have hf := ite_t c_7 hf
      exact w14 () hf _ _ _ hP hD hS (lv_sub hl [] rfl)
    · have hf := ite_f c_7 hf
      refine lv_iconst (v := 1) hx hb dX4_in_10 (by decide) ?_
      refine lv_goto (tgt := 15) hx hb dX4_in_11 (by decide) ?_
      cases hf
      exact hR _ _ _ _ _ _ (by decide) rfl rfl hP hD hS dX4_in_15
def rm_X4_isCell : Room := { frames := 1, cells := 0, slots := 0, locals := 22 }
set_option maxRecDepth 100000 in
set_option maxHeartbeats 8000000 in
theorem K_X4_isCell (l : Launch) (D : va_G) (cI cZ : ClassId) (md : Nat → Nat) (sz : Nat) (mth msz mrn mmy mdf mgu mhs mlv : Int32) (mba mgi mfi mle mst msu mtr mdi mfa mca : Nat → Int32) (p1 : Int32) (r : (Int32)) (hf : f_X4_isCell msz p1 = r) : Met l yX4_isCell wsX4_isCell rm_X4_isCell (PC D cI cZ sz [.ref (md 0), .int p1] (wM cI cZ md mth msz mrn mmy mdf mgu mhs mlv mba mgi mfi mle mst msu mtr mdi mfa mca)) (QI D cI cZ sz (wM cI cZ md mth msz mrn mmy mdf mgu mhs mlv mba mgi mfi mle mst msu mtr mdi mfa mca) r (wM cI cZ md mth msz mrn mmy mdf mgu mhs mlv mba mgi mfi mle mst msu mtr mdi mfa mca)) 0 0 (va_A (wM cI cZ md mth msz mrn mmy mdf mgu mhs mlv mba mgi mfi mle mst msu mtr mdi mfa mca) sz) := by
  refine mk_z (cc := cX4_isCell) (maxL := 2) (lv0 := [(0, .ref (md 0)), (1, .int p1)]) (by decide) rfl (Nat.le_of_ble_eq_true rfl) rfl ?_
  intro p e s m args below meth c ls A Q H hx hb hml hown hts hK hP hD hA hS hl hR
  have hinX4 : ∀ w ∈ wsX40, w ∈ wsX4_isCell := by decide +kernel
  rw [f_X4_isCell] at hf
  refine lv_iload_n hx hb dX4_isCell_0 rfl (lv_at hl 1 rfl) ?_
  refine lv_iconst (v := 0) hx hb dX4_isCell_1 (by decide) ?_
  refine lv_bipush (v := 15) hx hb dX4_isCell_2 (by decide) ?_
  refine clS_i (As := [.int p1, .int 0, .int 15]) (rest := []) (wM cI cZ md mth msz mrn mmy mdf mgu mhs mlv mba mgi mfi mle mst msu mtr mdi mfa mca) ⟨hx, hb, hml, hown, hts⟩ (K_X4_in l D cI cZ H.size  p1 0 15 _ rfl) (va_cwS 3 hts gX4_isCell_X4_in rfl rfl rfl (by decide +kernel) ⟨Nat.le_of_ble_eq_true rfl, Nat.le_of_ble_eq_true rfl⟩) hK hP hD hS hA hl.1 [] (by decide) rfl rfl rfl rfl rfl (Nat.le_of_ble_eq_true rfl) dX4_isCell_4 ⟨Nat.le_of_ble_eq_true rfl, Nat.le_of_ble_eq_true rfl⟩ (fun H locs hP hD hS => ?_)
  obtain ⟨k34, hk34, hf⟩ := jn_some hf
  have w34 : ∀ (_ : Unit), k34 () = r → ∀ (H : Heap) (locs : List Loc) (ls : Array Slot), va_P D vwCl (wM cI cZ md mth msz mrn mmy mdf mgu mhs mlv mba mgi mfi mle mst msu mtr mdi mfa mca) H → va_D A (wM cI cZ md mth msz mrn mmy mdf mgu mhs mlv mba mgi mfi mle mst msu mtr mdi mfa mca) → va_S A s.heap H locs → lv_has ls 2 [] → W p l e rm_X4_isCell s m args below meth c H locs 0 0 Q (F0 m 34 ls []) := by
    intro _ hf H locs ls hP hD hS hl
    rw [hk34] at hf
    try dsimp only at hf
    refine lv_iconst (v := 0) hx hb dX4_isCell_34 (by decide) ?_
    cases hf
    exact hR _ _ _ _ _ _ (by decide) rfl rfl hP hD hS dX4_isCell_35
  refine lv_if_eq (tgt := 34) hx hb dX4_isCell_7 (by decide) (fun c_7 => ?_) (fun c_7 => ?_)
  · have hf := ite_t c_7 hf
    exact w34 () hf _ _ _ hP hD hS (lv_sub hl [] rfl)
  · have hf := ite_f c_7 hf
    refine lv_iload_n hx hb dX4_isCell_10 rfl (lv_at hl 1 rfl) ?_
    refine lv_iconst (v := 4) hx hb dX4_isCell_11 (by decide) ?_
    refine lv_idiv hx hb dX4_isCell_12 (by decide) ?_
    refine lv_aload_n hx hb dX4_isCell_13 rfl (lv_at hl 0 rfl) ?_
    refine va_get (D := D) (ci := 4) (v := .int msz) (C := RX4) (T := TX4) (N := 18) hx hb hts hinX4 hown hK.1 hP 0 rfl rfl 1 (by decide) (hts (.fieldLink RX4 7 "GridpuzzleModel" "size" "I") (by decide +kernel)) (fun _ h9 => h9) rfl dX4_isCell_14 ?_
    refine lv_icmp_ge (tgt := 34) hx hb dX4_isCell_17 (by decide) (fun c_17 => ?_) (fun c_17 => ?_)
    · have hf := ite_t c_17 hf
      exact w34 () hf _ _ _ hP hD hS (lv_sub hl [] rfl)
    · have hf := ite_f c_17 hf
      refine lv_iload_n hx hb dX4_isCell_20 rfl (lv_at hl 1 rfl) ?_
      refine lv_iconst (v := 4) hx hb dX4_isCell_21 (by decide) ?_
      refine lv_irem hx hb dX4_isCell_22 (by decide) ?_
      refine lv_aload_n hx hb dX4_isCell_23 rfl (lv_at hl 0 rfl) ?_
      refine va_get (D := D) (ci := 4) (v := .int msz) (C := RX4) (T := TX4) (N := 18) hx hb hts hinX4 hown hK.1 hP 0 rfl rfl 1 (by decide) (hts (.fieldLink RX4 7 "GridpuzzleModel" "size" "I") (by decide +kernel)) (fun _ h9 => h9) rfl dX4_isCell_24 ?_
      refine lv_icmp_ge (tgt := 34) hx hb dX4_isCell_27 (by decide) (fun c_27 => ?_) (fun c_27 => ?_)
      · have hf := ite_t c_27 hf
        exact w34 () hf _ _ _ hP hD hS (lv_sub hl [] rfl)
      · have hf := ite_f c_27 hf
        refine lv_iconst (v := 1) hx hb dX4_isCell_30 (by decide) ?_
        refine lv_goto (tgt := 35) hx hb dX4_isCell_31 (by decide) ?_
        cases hf
        exact hR _ _ _ _ _ _ (by decide) rfl rfl hP hD hS dX4_isCell_35
def rm_X4_isOpen : Room := { frames := 2, cells := 0, slots := 0, locals := 43 }
set_option maxRecDepth 100000 in
set_option maxHeartbeats 8000000 in
theorem K_X4_isOpen (l : Launch) (D : va_G) (cI cZ : ClassId) (md : Nat → Nat) (sz : Nat) (mth msz mrn mmy mdf mgu mhs mlv : Int32) (mba mgi mfi mle mst msu mtr mdi mfa mca : Nat → Int32) (p1 : Int32) (r : (Int32)) (hf : f_X4_isOpen msz mba p1 = some r) : Met l yX4_isOpen wsX4_isOpen rm_X4_isOpen (PC D cI cZ sz [.ref (md 0), .int p1] (wM cI cZ md mth msz mrn mmy mdf mgu mhs mlv mba mgi mfi mle mst msu mtr mdi mfa mca)) (QI D cI cZ sz (wM cI cZ md mth msz mrn mmy mdf mgu mhs mlv mba mgi mfi mle mst msu mtr mdi mfa mca) r (wM cI cZ md mth msz mrn mmy mdf mgu mhs mlv mba mgi mfi mle mst msu mtr mdi mfa mca)) 0 0 (va_A (wM cI cZ md mth msz mrn mmy mdf mgu mhs mlv mba mgi mfi mle mst msu mtr mdi mfa mca) sz) := by
  refine mk_z (cc := cX4_isOpen) (maxL := 2) (lv0 := [(0, .ref (md 0)), (1, .int p1)]) (by decide) rfl (Nat.le_of_ble_eq_true rfl) rfl ?_
  intro p e s m args below meth c ls A Q H hx hb hml hown hts hK hP hD hA hS hl hR
  have hinX4 : ∀ w ∈ wsX40, w ∈ wsX4_isOpen := by decide +kernel
  rw [f_X4_isOpen] at hf
  refine lv_aload_n hx hb dX4_isOpen_0 rfl (lv_at hl 0 rfl) ?_
  refine lv_iload_n hx hb dX4_isOpen_1 rfl (lv_at hl 1 rfl) ?_
  refine clV_i (As := [.int p1]) (rest := []) (wM cI cZ md mth msz mrn mmy mdf mgu mhs mlv mba mgi mfi mle mst msu mtr mdi mfa mca) ⟨hx, hb, hml, hown, hts⟩ (K_X4_isCell l D cI cZ md H.size mth msz mrn mmy mdf mgu mhs mlv mba mgi mfi mle mst msu mtr mdi mfa mca p1 _ rfl) (cwV 1 hts gX4_isOpen_X4_isCell rfl rfl rfl (by decide +kernel) ⟨Nat.le_of_ble_eq_true rfl, Nat.le_of_ble_eq_true rfl⟩) hK hP hD hS hA hl.1 [0, 1, 2, 3, 4, 5, 6, 7, 8, 9, 10] (by decide) rfl rfl rfl 4 0 rfl rfl rfl rfl rfl (Nat.le_of_ble_eq_true rfl) dX4_isOpen_2 ⟨Nat.le_of_ble_eq_true rfl, Nat.le_of_ble_eq_true rfl⟩ (fun H locs hP hD hS => ?_)
  obtain ⟨k21, hk21, hf⟩ := jn_some hf
  have w21 : ∀ (_ : Unit), k21 () = some r → ∀ (H : Heap) (locs : List Loc) (ls : Array Slot), va_P D vwCl (wM cI cZ md mth msz mrn mmy mdf mgu mhs mlv mba mgi mfi mle mst msu mtr mdi mfa mca) H → va_D A (wM cI cZ md mth msz mrn mmy mdf mgu mhs mlv mba mgi mfi mle mst msu mtr mdi mfa mca) → va_S A s.heap H locs → lv_has ls 2 [] → W p l e rm_X4_isOpen s m args below meth c H locs 0 0 Q (F0 m 21 ls []) := by
    intro _ hf H locs ls hP hD hS hl
    rw [hk21] at hf
    try dsimp only at hf
    refine lv_iconst (v := 0) hx hb dX4_isOpen_21 (by decide) ?_
    cases hf
    exact hR _ _ _ _ _ _ (by decide) rfl rfl hP hD hS dX4_isOpen_22
  refine lv_if_eq (tgt := 21) hx hb dX4_isOpen_5 (by decide) (fun c_5 => ?_) (fun c_5 => ?_)
  · have hf := ite_t c_5 hf
    exact w21 () hf _ _ _ hP hD hS (lv_sub hl [] rfl)
  · have hf := ite_f c_5 hf
    refine lv_aload_n hx hb dX4_isOpen_8 rfl (lv_at hl 0 rfl) ?_
    refine va_get (D := D) (ci := 4) (v := .ref (md 1)) (C := RX4) (T := TX4) (N := 18) hx hb hts hinX4 hown hK.1 hP 0 rfl rfl 2 (by decide) (hts (.fieldLink RX4 13 "GridpuzzleModel" "isBarred" "[Z") (by decide +kernel)) (fun _ h9 => h9) rfl dX4_isOpen_9 ?_
    refine lv_iload_n hx hb dX4_isOpen_12 rfl (lv_at hl 1 rfl) ?_
    obtain ⟨hz13, hf⟩ := gd_some hf
    refine va_zald hx hb hK.1 hP 1 1 rfl rfl hz13 dX4_isOpen_13 ?_
    refine lv_if_ne (tgt := 21) hx hb dX4_isOpen_14 (by decide) (fun c_14 => ?_) (fun c_14 => ?_)
    · have hf := ite_f c_14 hf
      exact w21 () hf _ _ _ hP hD hS (lv_sub hl [] rfl)
    · have hf := ite_t c_14 hf
      refine lv_iconst (v := 1) hx hb dX4_isOpen_17 (by decide) ?_
      refine lv_goto (tgt := 22) hx hb dX4_isOpen_18 (by decide) ?_
      cases hf
      exact hR _ _ _ _ _ _ (by decide) rfl rfl hP hD hS dX4_isOpen_22
def rm_X4_isRun : Room := { frames := 1, cells := 0, slots := 0, locals := 22 }
set_option maxRecDepth 100000 in
set_option maxHeartbeats 8000000 in
theorem K_X4_isRun (l : Launch) (D : va_G) (cI cZ : ClassId) (md : Nat → Nat) (sz : Nat) (mth msz mrn mmy mdf mgu mhs mlv : Int32) (mba mgi mfi mle mst msu mtr mdi mfa mca : Nat → Int32) (p1 : Int32) (r : (Int32)) (hf : f_X4_isRun mrn p1 = some r) : Met l yX4_isRun wsX4_isRun rm_X4_isRun (PC D cI cZ sz [.ref (md 0), .int p1] (wM cI cZ md mth msz mrn mmy mdf mgu mhs mlv mba mgi mfi mle mst msu mtr mdi mfa mca)) (QI D cI cZ sz (wM cI cZ md mth msz mrn mmy mdf mgu mhs mlv mba mgi mfi mle mst msu mtr mdi mfa mca) r (wM cI cZ md mth msz mrn mmy mdf mgu mhs mlv mba mgi mfi mle mst msu mtr mdi mfa mca)) 0 0 (va_A (wM cI cZ md mth msz mrn mmy mdf mgu mhs mlv mba mgi mfi mle mst msu mtr mdi mfa mca) sz) := by
  refine mk_z (cc := cX4_isRun) (maxL := 2) (lv0 := [(0, .ref (md 0)), (1, .int p1)]) (by decide) rfl (Nat.le_of_ble_eq_true rfl) rfl ?_
  intro p e s m args below meth c ls A Q H hx hb hml hown hts hK hP hD hA hS hl hR
  have hinX4 : ∀ w ∈ wsX40, w ∈ wsX4_isRun := by decide +kernel
  rw [f_X4_isRun] at hf
  refine lv_iload_n hx hb dX4_isRun_0 rfl (lv_at hl 1 rfl) ?_
  refine lv_iconst (v := 0) hx hb dX4_isRun_1 (by decide) ?_
  refine lv_aload_n hx hb dX4_isRun_2 rfl (lv_at hl 0 rfl) ?_
  refine va_get (D := D) (ci := 4) (v := .int mrn) (C := RX4) (T := TX4) (N := 18) hx hb hts hinX4 hown hK.1 hP 0 rfl rfl 4 (by decide) (hts (.fieldLink RX4 59 "GridpuzzleModel" "runs" "I") (by decide +kernel)) (fun _ h9 => h9) rfl dX4_isRun_3 ?_
  refine lv_iconst (v := 1) hx hb dX4_isRun_6 (by decide) ?_
  refine lv_isub hx hb dX4_isRun_7 ?_
  refine clS_i (As := [.int p1, .int 0, .int (mrn - 1)]) (rest := []) (wM cI cZ md mth msz mrn mmy mdf mgu mhs mlv mba mgi mfi mle mst msu mtr mdi mfa mca) ⟨hx, hb, hml, hown, hts⟩ (K_X4_in l D cI cZ H.size  p1 0 (mrn - 1) _ rfl) (va_cwS 3 hts gX4_isRun_X4_in rfl rfl rfl (by decide +kernel) ⟨Nat.le_of_ble_eq_true rfl, Nat.le_of_ble_eq_true rfl⟩) hK hP hD hS hA hl.1 [] (by decide) rfl rfl rfl rfl rfl (Nat.le_of_ble_eq_true rfl) dX4_isRun_8 ⟨Nat.le_of_ble_eq_true rfl, Nat.le_of_ble_eq_true rfl⟩ (fun H locs hP hD hS => ?_)
  obtain ⟨hz11, hf⟩ := gd_some hf
  cases hf
  exact hR _ _ _ _ _ _ hz11 rfl rfl hP hD hS dX4_isRun_11
def rm_X4_layRuns : Room := { frames := 0, cells := 0, slots := 0, locals := 0 }
set_option maxRecDepth 100000 in
set_option maxHeartbeats 8000000 in
theorem K_X4_layRuns (l : Launch) (D : va_G) (cI cZ : ClassId) (md : Nat → Nat) (sz : Nat) (N : Nat) (mth msz mrn mmy mdf mgu mhs mlv : Int32) (mba mgi mfi mle mst msu mtr mdi mfa mca : Nat → Int32) (r : (Int32 × (Nat → Int32) × (Nat → Int32) × (Nat → Int32) × (Nat → Int32))) (hf : f_X4_layRuns N msz mrn mba mfi mle mst msu = some r) : Met l yX4_layRuns wsX4_layRuns rm_X4_layRuns (PC D cI cZ sz [.ref (md 0)] (wM cI cZ md mth msz mrn mmy mdf mgu mhs mlv mba mgi mfi mle mst msu mtr mdi mfa mca)) (QV D cI cZ sz (wM cI cZ md mth msz mrn mmy mdf mgu mhs mlv mba mgi mfi mle mst msu mtr mdi mfa mca) (wM cI cZ md mth msz r.1 mmy mdf mgu mhs mlv mba mgi r.2.1 r.2.2.1 r.2.2.2.1 r.2.2.2.2 mtr mdi mfa mca)) 0 0 (va_A (wM cI cZ md mth msz mrn mmy mdf mgu mhs mlv mba mgi mfi mle mst msu mtr mdi mfa mca) sz) := by
  refine mk_v (cc := cX4_layRuns) (maxL := 7) (lv0 := [(0, .ref (md 0))]) (by decide) rfl (Nat.le_of_ble_eq_true rfl) rfl ?_
  intro p e s m args below meth c ls A Q H hx hb hml hown hts hK hP hD hA hS hl hR
  have hinX4 : ∀ w ∈ wsX40, w ∈ wsX4_layRuns := by decide +kernel
  rw [f_X4_layRuns] at hf
  refine lv_aload_n hx hb dX4_layRuns_0 rfl (lv_at hl 0 rfl) ?_
  refine lv_iconst (v := 0) hx hb dX4_layRuns_1 (by decide) ?_
  refine va_put (D := D) (ci := 4) (v := .int 0) (ty := .int) (C := RX4) (T := TX4) (N := 18) hx hb hts hinX4 tyX4 tyX4_ok nmX4 hown hK.1 hP hD hS 0 rfl rfl 4 (by decide) (hts (.fieldLink RX4 59 "GridpuzzleModel" "runs" "I") (by decide +kernel)) (fun _ h9 => h9) rfl (by decide +kernel) rfl rfl (Nat.le_of_ble_eq_true rfl) dX4_layRuns_2 (fun H locs hP hD hS => ?_)
  have hP : va_P D vwCl (wM cI cZ md mth msz 0 mmy mdf mgu mhs mlv mba mgi mfi mle mst msu mtr mdi mfa mca) H := hP
  have hD : va_D A (wM cI cZ md mth msz 0 mmy mdf mgu mhs mlv mba mgi mfi mle mst msu mtr mdi mfa mca) := hD
  refine lv_iconst (v := 0) hx hb dX4_layRuns_5 (by decide) ?_
  refine lv_istore_n (lv' := [(1, .int 0), (0, .ref (md 0))]) hx hb dX4_layRuns_6 rfl hl (by decide) rfl (fun ls hl => ?_)
  have l7 : ∀ (nn : Nat) (v1_7 : Int32) (mrn_7 : Int32) (mfi_7 : Nat → Int32) (mle_7 : Nat → Int32) (mst_7 : Nat → Int32) (msu_7 : Nat → Int32), f_X4_layRuns_L7 N msz mba nn v1_7 mrn_7 mfi_7 mle_7 mst_7 msu_7 = some r → ∀ (H : Heap) (locs : List Loc) (ls : Array Slot), va_P D vwCl (wM cI cZ md mth msz mrn_7 mmy mdf mgu mhs mlv mba mgi mfi_7 mle_7 mst_7 msu_7 mtr mdi mfa mca) H → va_D A (wM cI cZ md mth msz mrn_7 mmy mdf mgu mhs mlv mba mgi mfi_7 mle_7 mst_7 msu_7 mtr mdi mfa mca) → va_S A s.heap H locs → lv_has ls 7 [(0, .ref (md 0)), (1, .int v1_7)] → W p l e rm_X4_layRuns s m args below meth c H locs 0 0 Q (F0 m 7 ls []) := by
    intro nn
    induction nn with
    | zero => intro _ _ _ _ _ _ hf; exact nomatch (show (none : Option _) = some r from hf)
    | succ n7 ih7 =>
      intro v1_7 mrn_7 mfi_7 mle_7 mst_7 msu_7 hf H locs ls hP hD hS hl
      rw [f_X4_layRuns_L7.eq_2] at hf
      refine lv_iload_n hx hb dX4_layRuns_7 rfl (lv_at hl 1 rfl) ?_
      refine lv_iconst (v := 2) hx hb dX4_layRuns_8 (by decide) ?_
      refine lv_aload_n hx hb dX4_layRuns_9 rfl (lv_at hl 0 rfl) ?_
      refine va_get (D := D) (ci := 4) (v := .int msz) (C := RX4) (T := TX4) (N := 18) hx hb hts hinX4 hown hK.1 hP 0 rfl rfl 1 (by decide) (hts (.fieldLink RX4 7 "GridpuzzleModel" "size" "I") (by decide +kernel)) (fun _ h9 => h9) rfl dX4_layRuns_10 ?_
      refine lv_imul hx hb dX4_layRuns_13 ?_
      refine lv_icmp_ge (tgt := 194) hx hb dX4_layRuns_14 (by decide) (fun c_14 => ?_) (fun c_14 => ?_)
      · have hf := ite_t c_14 hf
        cases hf
        exact hR _ _ _ _ _ rfl hP hD hS dX4_layRuns_194
      · have hf := ite_f c_14 hf
        refine lv_iload_n hx hb dX4_layRuns_17 rfl (lv_at hl 1 rfl) ?_
        refine lv_aload_n hx hb dX4_layRuns_18 rfl (lv_at hl 0 rfl) ?_
        refine va_get (D := D) (ci := 4) (v := .int msz) (C := RX4) (T := TX4) (N := 18) hx hb hts hinX4 hown hK.1 hP 0 rfl rfl 1 (by decide) (hts (.fieldLink RX4 7 "GridpuzzleModel" "size" "I") (by decide +kernel)) (fun _ h9 => h9) rfl dX4_layRuns_19 ?_
        obtain ⟨k30, hk30, hf⟩ := jn_some hf
        have w30 : ∀ (t0_30 : Int32), k30 t0_30 = some r → ∀ (H : Heap) (locs : List Loc) (ls : Array Slot), va_P D vwCl (wM cI cZ md mth msz mrn_7 mmy mdf mgu mhs mlv mba mgi mfi_7 mle_7 mst_7 msu_7 mtr mdi mfa mca) H → va_D A (wM cI cZ md mth msz mrn_7 mmy mdf mgu mhs mlv mba mgi mfi_7 mle_7 mst_7 msu_7 mtr mdi mfa mca) → va_S A s.heap H locs → lv_has ls 7 [(0, .ref (md 0)), (1, .int v1_7)] → W p l e rm_X4_layRuns s m args below meth c H locs 0 0 Q (F0 m 30 ls [.int t0_30]) := by
          intro t0_30 hf H locs ls hP hD hS hl
          rw [hk30] at hf
          try dsimp only at hf
          refine lv_istore_n (lv' := [(2, .int t0_30), (0, .ref (md 0)), (1, .int v1_7)]) hx hb dX4_layRuns_30 rfl hl (by decide) rfl (fun ls hl => ?_)
          refine lv_iload_n hx hb dX4_layRuns_31 rfl (lv_at hl 2 rfl) ?_
          refine lv_aload_n hx hb dX4_layRuns_32 rfl (lv_at hl 1 rfl) ?_
          refine va_get (D := D) (ci := 4) (v := .int msz) (C := RX4) (T := TX4) (N := 18) hx hb hts hinX4 hown hK.1 hP 0 rfl rfl 1 (by decide) (hts (.fieldLink RX4 7 "GridpuzzleModel" "size" "I") (by decide +kernel)) (fun _ h9 => h9) rfl dX4_layRuns_33 ?_
          obtain ⟨k51, hk51, hf⟩ := jn_some hf
          have w51 : ∀ (t0_51 : Int32), k51 t0_51 = some r → ∀ (H : Heap) (locs : List Loc) (ls : Array Slot), va_P D vwCl (wM cI cZ md mth msz mrn_7 mmy mdf mgu mhs mlv mba mgi mfi_7 mle_7 mst_7 msu_7 mtr mdi mfa mca) H → va_D A (wM cI cZ md mth msz mrn_7 mmy mdf mgu mhs mlv mba mgi mfi_7 mle_7 mst_7 msu_7 mtr mdi mfa mca) → va_S A s.heap H locs → lv_has ls 7 [(0, .ref (md 0)), (1, .int v1_7), (2, .int t0_30)] → W p l e rm_X4_layRuns s m args below meth c H locs 0 0 Q (F0 m 51 ls [.int t0_51]) := by
            intro t0_51 hf H locs ls hP hD hS hl
            rw [hk51] at hf
            try dsimp only at hf
            refine lv_istore_n (lv' := [(3, .int t0_51), (0, .ref (md 0)), (1, .int v1_7), (2, .int t0_30)]) hx hb dX4_layRuns_51 rfl hl (by decide) rfl (fun ls hl => ?_)
            refine lv_iconst (v := 0) hx hb dX4_layRuns_52 (by decide) ?_
            refine lv_istore (lv' := [(4, .int 0), (3, .int t0_51), (0, .ref (md 0)), (1, .int v1_7), (2, .int t0_30)]) hx hb dX4_layRuns_53 hl (by decide) rfl (fun ls hl => ?_)
            refine lv_iconst (v := 0) hx hb dX4_layRuns_55 (by decide) ?_
            refine lv_istore (lv' := [(5, .int 0), (4, .int 0), (3, .int t0_51), (0, .ref (md 0)), (1, .int v1_7), (2, .int t0_30)]) hx hb dX4_layRuns_56 hl (by decide) rfl (fun ls hl => ?_)
            obtain ⟨k188, hk188, hf⟩ := jn_some hf
            have w188 : ∀ (mrn_188 : Int32) (mfi_188 : Nat → Int32) (mle_188 : Nat → Int32) (mst_188 : Nat → Int32) (msu_188 : Nat → Int32), k188 mrn_188 mfi_188 mle_188 mst_188 msu_188 = some r → ∀ (H : Heap) (locs : List Loc) (ls : Array Slot), va_P D vwCl (wM cI cZ md mth msz mrn_188 mmy mdf mgu mhs mlv mba mgi mfi_188 mle_188 mst_188 msu_188 mtr mdi mfa mca) H → va_D A (wM cI cZ md mth msz mrn_188 mmy mdf mgu mhs mlv mba mgi mfi_188 mle_188 mst_188 msu_188 mtr mdi mfa mca) → va_S A s.heap H locs → lv_has ls 7 [(0, .ref (md 0)), (1, .int v1_7)] → W p l e rm_X4_layRuns s m args below meth c H locs 0 0 Q (F0 m 188 ls []) := by
              intro mrn_188 mfi_188 mle_188 mst_188 msu_188 hf H locs ls hP hD hS hl
              rw [hk188] at hf
              try dsimp only at hf
              refine lv_iinc (v := (v1_7 + 1)) (lv' := [(1, .int (v1_7 + 1)), (0, .ref (md 0))]) hx hb dX4_layRuns_188 hl (k := 1) rfl rfl (by decide) rfl (fun ls hl => ?_)
              refine lv_goto (tgt := 7) hx hb dX4_layRuns_191 (by decide) ?_
              exact ih7 (v1_7 + 1) mrn_188 mfi_188 mle_188 mst_188 msu_188 hf _ _ _ hP hD hS (lv_sub hl [1, 0] rfl)
            have l58 : ∀ (nn : Nat) (v4_58 : Int32) (v5_58 : Int32) (mrn_58 : Int32) (mfi_58 : Nat → Int32) (mle_58 : Nat → Int32) (mst_58 : Nat → Int32) (msu_58 : Nat → Int32), f_X4_layRuns_L58 t0_30 t0_51 msz mba k188 nn v4_58 v5_58 mrn_58 mfi_58 mle_58 mst_58 msu_58 = some r → ∀ (H : Heap) (locs : List Loc) (ls : Array Slot), va_P D vwCl (wM cI cZ md mth msz mrn_58 mmy mdf mgu mhs mlv mba mgi mfi_58 mle_58 mst_58 msu_58 mtr mdi mfa mca) H → va_D A (wM cI cZ md mth msz mrn_58 mmy mdf mgu mhs mlv mba mgi mfi_58 mle_58 mst_58 msu_58 mtr mdi mfa mca) → va_S A s.heap H locs → lv_has ls 7 [(0, .ref (md 0)), (1, .int v1_7), (2, .int t0_30), (3, .int t0_51), (4, .int v4_58), (5, .int v5_58)] → W p l e rm_X4_layRuns s m args below meth c H locs 0 0 Q (F0 m 58 ls []) := by
              intro nn
              induction nn with
              | zero => intro _ _ _ _ _ _ _ hf; exact nomatch (show (none : Option _) = some r from hf)
              | succ n58 ih58 =>
                intro v4_58 v5_58 mrn_58 mfi_58 mle_58 mst_58 msu_58 hf H locs ls hP hD hS hl
                rw [f_X4_layRuns_L58.eq_2] at hf
                refine lv_iload hx hb dX4_layRuns_58 (lv_at hl 5 rfl) ?_
                refine lv_aload_n hx hb dX4_layRuns_60 rfl (lv_at hl 0 rfl) ?_
                refine va_get (D := D) (ci := 4) (v := .int msz) (C := RX4) (T := TX4) (N := 18) hx hb hts hinX4 hown hK.1 hP 0 rfl rfl 1 (by decide) (hts (.fieldLink RX4 7 "GridpuzzleModel" "size" "I") (by decide +kernel)) (fun _ h9 => h9) rfl dX4_layRuns_61 ?_
                refine lv_icmp_gt (tgt := 188) hx hb dX4_layRuns_64 (by decide) (fun c_64 => ?_) (fun c_64 => ?_)
                · have hf := ite_t c_64 hf
                  exact w188 mrn_58 mfi_58 mle_58 mst_58 msu_58 hf _ _ _ hP hD hS (lv_sub hl [0, 1] rfl)
                · have hf := ite_f c_64 hf
                  refine lv_iload hx hb dX4_layRuns_67 (lv_at hl 5 rfl) ?_
                  refine lv_aload_n hx hb dX4_layRuns_69 rfl (lv_at hl 0 rfl) ?_
                  refine va_get (D := D) (ci := 4) (v := .int msz) (C := RX4) (T := TX4) (N := 18) hx hb hts hinX4 hown hK.1 hP 0 rfl rfl 1 (by decide) (hts (.fieldLink RX4 7 "GridpuzzleModel" "size" "I") (by decide +kernel)) (fun _ h9 => h9) rfl dX4_layRuns_70 ?_
                  obtain ⟨k95, hk95, hf⟩ := jn_some hf
                  have w95 : ∀ (t0_95 : Int32), k95 t0_95 = some r → ∀ (H : Heap) (locs : List Loc) (ls : Array Slot), va_P D vwCl (wM cI cZ md mth msz mrn_58 mmy mdf mgu mhs mlv mba mgi mfi_58 mle_58 mst_58 msu_58 mtr mdi mfa mca) H → va_D A (wM cI cZ md mth msz mrn_58 mmy mdf mgu mhs mlv mba mgi mfi_58 mle_58 mst_58 msu_58 mtr mdi mfa mca) → va_S A s.heap H locs → lv_has ls 7 [(0, .ref (md 0)), (1, .int v1_7), (2, .int t0_30), (3, .int t0_51), (4, .int v4_58), (5, .int v5_58)] → W p l e rm_X4_layRuns s m args below meth c H locs 0 0 Q (F0 m 95 ls [.int t0_95]) := by
                    intro t0_95 hf H locs ls hP hD hS hl
                    rw [hk95] at hf
                    try dsimp only at hf
                    refine lv_istore (lv' := [(6, .int t0_95), (0, .ref (md 0)), (1, .int v1_7), (2, .int t0_30), (3, .int t0_51), (4, .int v4_58), (5, .int v5_58)]) hx hb dX4_layRuns_95 hl (by decide) rfl (fun ls hl => ?_)
                    refine lv_iload hx hb dX4_layRuns_97 (lv_at hl 0 rfl) ?_
                    obtain ⟨k167, hk167, hf⟩ := jn_some hf
                    have w167 : ∀ (mrn_167 : Int32) (mfi_167 : Nat → Int32) (mle_167 : Nat → Int32) (mst_167 : Nat → Int32) (msu_167 : Nat → Int32), k167 mrn_167 mfi_167 mle_167 mst_167 msu_167 = some r → ∀ (H : Heap) (locs : List Loc) (ls : Array Slot), va_P D vwCl (wM cI cZ md mth msz mrn_167 mmy mdf mgu mhs mlv mba mgi mfi_167 mle_167 mst_167 msu_167 mtr mdi mfa mca) H → va_D A (wM cI cZ md mth msz mrn_167 mmy mdf mgu mhs mlv mba mgi mfi_167 mle_167 mst_167 msu_167 mtr mdi mfa mca) → va_S A s.heap H locs → lv_has ls 7 [(0, .ref (md 0)), (1, .int v1_7), (2, .int t0_30), (3, .int t0_51), (4, .int v4_58), (5, .int v5_58), (6, .int t0_95)] → W p l e rm_X4_layRuns s m args below meth c H locs 0 0 Q (F0 m 167 ls []) := by
                      intro mrn_167 mfi_167 mle_167 mst_167 msu_167 hf H locs ls hP hD hS hl
                      rw [hk167] at hf
                      try dsimp only at hf
                      refine lv_iload hx hb dX4_layRuns_167 (lv_at hl 6 rfl) ?_
                      obtain ⟨k180, hk180, hf⟩ := jn_some hf
                      have w180 : ∀ (t0_180 : Int32), k180 t0_180 = some r → ∀ (H : Heap) (locs : List Loc) (ls : Array Slot), va_P D vwCl (wM cI cZ md mth msz mrn_167 mmy mdf mgu mhs mlv mba mgi mfi_167 mle_167 mst_167 msu_167 mtr mdi mfa mca) H → va_D A (wM cI cZ md mth msz mrn_167 mmy mdf mgu mhs mlv mba mgi mfi_167 mle_167 mst_167 msu_167 mtr mdi mfa mca) → va_S A s.heap H locs → lv_has ls 7 [(0, .ref (md 0)), (1, .int v1_7), (2, .int t0_30), (3, .int t0_51), (5, .int v5_58)] → W p l e rm_X4_layRuns s m args below meth c H locs 0 0 Q (F0 m 180 ls [.int t0_180]) := by
                        intro t0_180 hf H locs ls hP hD hS hl
                        rw [hk180] at hf
                        try dsimp only at hf
                        refine lv_istore (lv' := [(4, .int t0_180), (0, .ref (md 0)), (1, .int v1_7), (2, .int t0_30), (3, .int t0_51), (5, .int v5_58)]) hx hb dX4_layRuns_180 hl (by decide) rfl (fun ls hl => ?_)
                        refine lv_iinc (v := (v5_58 + 1)) (lv' := [(5, .int (v5_58 + 1)), (4, .int t0_180), (0, .ref (md 0)), (1, .int v1_7), (2, .int t0_30), (3, .int t0_51)]) hx hb dX4_layRuns_182 hl (k := 5) rfl rfl (by decide) rfl (fun ls hl => ?_)
                        refine lv_goto (tgt := 58) hx hb dX4_layRuns_185 (by decide) ?_
                        exact ih58 t0_180 (v5_58 + 1) mrn_167 mfi_167 mle_167 mst_167 msu_167 hf _ _ _ hP hD hS (lv_sub hl [2, 3, 4, 5, 1, 0] rfl)
                      refine lv_if_eq (tgt := 179) hx hb dX4_layRuns_169 (by decide) (fun c_169 => ?_) (fun c_169 => ?_)
                      · have hf := ite_t c_169 hf
                        refine lv_iconst (v := 0) hx hb dX4_layRuns_179 (by decide) ?_
                        exact w180 0 hf _ _ _ hP hD hS (lv_sub hl [0, 1, 2, 3, 5] rfl)
                      · have hf := ite_f c_169 hf
                        refine lv_iload hx hb dX4_layRuns_172 (lv_at hl 4 rfl) ?_
                        refine lv_iconst (v := 1) hx hb dX4_layRuns_174 (by decide) ?_
                        refine lv_iadd hx hb dX4_layRuns_175 ?_
                        refine lv_goto (tgt := 180) hx hb dX4_layRuns_176 (by decide) ?_
                        exact w180 (v4_58 + 1) hf _ _ _ hP hD hS (lv_sub hl [0, 1, 2, 3, 5] rfl)
                    refine lv_if_ne (tgt := 167) hx hb dX4_layRuns_99 (by decide) (fun c_99 => ?_) (fun c_99 => ?_)
                    · have hf := ite_f c_99 hf
                      exact w167 mrn_58 mfi_58 mle_58 mst_58 msu_58 hf _ _ _ hP hD hS (lv_sub hl [1, 2, 3, 4, 5, 6, 0] rfl)
                    · have hf := ite_t c_99 hf
                      refine lv_iload hx hb dX4_layRuns_102 (lv_at hl 5 rfl) ?_
                      refine lv_iconst (v := 1) hx hb dX4_layRuns_104 (by decide) ?_
                      refine lv_icmp_le (tgt := 167) hx hb dX4_layRuns_105 (by decide) (fun c_105 => ?_) (fun c_105 => ?_)
                      · have hf := ite_t c_105 hf
                        exact w167 mrn_58 mfi_58 mle_58 mst_58 msu_58 hf _ _ _ hP hD hS (lv_sub hl [1, 2, 3, 4, 5, 6, 0] rfl)
                      · have hf := ite_f c_105 hf
                        refine lv_aload_n hx hb dX4_layRuns_108 rfl (lv_at hl 1 rfl) ?_
                        refine va_get (D := D) (ci := 4) (v := .ref (md 3)) (C := RX4) (T := TX4) (N := 18) hx hb hts hinX4 hown hK.1 hP 0 rfl rfl 5 (by decide) (hts (.fieldLink RX4 21 "GridpuzzleModel" "firsts" "[I") (by decide +kernel)) (fun _ h9 => h9) rfl dX4_layRuns_109 ?_
                        refine lv_aload_n hx hb dX4_layRuns_112 rfl (lv_at hl 1 rfl) ?_
                        refine va_get (D := D) (ci := 4) (v := .int mrn_58) (C := RX4) (T := TX4) (N := 18) hx hb hts hinX4 hown hK.1 hP 0 rfl rfl 4 (by decide) (hts (.fieldLink RX4 59 "GridpuzzleModel" "runs" "I") (by decide +kernel)) (fun _ h9 => h9) rfl dX4_layRuns_113 ?_
                        refine lv_iload_n hx hb dX4_layRuns_116 rfl (lv_at hl 4 rfl) ?_
                        refine lv_iload_n hx hb dX4_layRuns_117 rfl (lv_at hl 3 rfl) ?_
                        refine lv_iload hx hb dX4_layRuns_118 (lv_at hl 6 rfl) ?_
                        refine lv_iload hx hb dX4_layRuns_120 (lv_at hl 5 rfl) ?_
                        refine lv_isub hx hb dX4_layRuns_122 ?_
                        refine lv_imul hx hb dX4_layRuns_123 ?_
                        refine lv_iadd hx hb dX4_layRuns_124 ?_
                        obtain ⟨hz125, hf⟩ := gd_some hf
                        refine va_iast hx hb hK.1 hP hD hS 3 0 rfl rfl hz125 dX4_layRuns_125 (fun H locs hP hD hS => ?_)
                        have hP : va_P D vwCl (wM cI cZ md mth msz mrn_58 mmy mdf mgu mhs mlv mba mgi (upd mfi_58 ((mrn_58 : Int32)).toNatClampNeg (t0_51 + (t0_30 * (v5_58 - v4_58)))) mle_58 mst_58 msu_58 mtr mdi mfa mca) H := hP
                        have hD : va_D A (wM cI cZ md mth msz mrn_58 mmy mdf mgu mhs mlv mba mgi (upd mfi_58 ((mrn_58 : Int32)).toNatClampNeg (t0_51 + (t0_30 * (v5_58 - v4_58)))) mle_58 mst_58 msu_58 mtr mdi mfa mca) := hD
                        refine lv_aload_n hx hb dX4_layRuns_126 rfl (lv_at hl 1 rfl) ?_
                        refine va_get (D := D) (ci := 4) (v := .ref (md 4)) (C := RX4) (T := TX4) (N := 18) hx hb hts hinX4 hown hK.1 hP 0 rfl rfl 6 (by decide) (hts (.fieldLink RX4 24 "GridpuzzleModel" "lengths" "[I") (by decide +kernel)) (fun _ h9 => h9) rfl dX4_layRuns_127 ?_
                        refine lv_aload_n hx hb dX4_layRuns_130 rfl (lv_at hl 1 rfl) ?_
                        refine va_get (D := D) (ci := 4) (v := .int mrn_58) (C := RX4) (T := TX4) (N := 18) hx hb hts hinX4 hown hK.1 hP 0 rfl rfl 4 (by decide) (hts (.fieldLink RX4 59 "GridpuzzleModel" "runs" "I") (by decide +kernel)) (fun _ h9 => h9) rfl dX4_layRuns_131 ?_
                        refine lv_iload hx hb dX4_layRuns_134 (lv_at hl 5 rfl) ?_
                        obtain ⟨hz136, hf⟩ := gd_some hf
                        refine va_iast hx hb hK.1 hP hD hS 4 0 rfl rfl hz136 dX4_layRuns_136 (fun H locs hP hD hS => ?_)
                        have hP : va_P D vwCl (wM cI cZ md mth msz mrn_58 mmy mdf mgu mhs mlv mba mgi (upd mfi_58 ((mrn_58 : Int32)).toNatClampNeg (t0_51 + (t0_30 * (v5_58 - v4_58)))) (upd mle_58 ((mrn_58 : Int32)).toNatClampNeg v4_58) mst_58 msu_58 mtr mdi mfa mca) H := hP
                        have hD : va_D A (wM cI cZ md mth msz mrn_58 mmy mdf mgu mhs mlv mba mgi (upd mfi_58 ((mrn_58 : Int32)).toNatClampNeg (t0_51 + (t0_30 * (v5_58 - v4_58)))) (upd mle_58 ((mrn_58 : Int32)).toNatClampNeg v4_58) mst_58 msu_58 mtr mdi mfa mca) := hD
                        refine lv_aload_n hx hb dX4_layRuns_137 rfl (lv_at hl 1 rfl) ?_
                        refine va_get (D := D) (ci := 4) (v := .ref (md 5)) (C := RX4) (T := TX4) (N := 18) hx hb hts hinX4 hown hK.1 hP 0 rfl rfl 7 (by decide) (hts (.fieldLink RX4 27 "GridpuzzleModel" "steps" "[I") (by decide +kernel)) (fun _ h9 => h9) rfl dX4_layRuns_138 ?_
                        refine lv_aload_n hx hb dX4_layRuns_141 rfl (lv_at hl 1 rfl) ?_
                        refine va_get (D := D) (ci := 4) (v := .int mrn_58) (C := RX4) (T := TX4) (N := 18) hx hb hts hinX4 hown hK.1 hP 0 rfl rfl 4 (by decide) (hts (.fieldLink RX4 59 "GridpuzzleModel" "runs" "I") (by decide +kernel)) (fun _ h9 => h9) rfl dX4_layRuns_142 ?_
                        refine lv_iload_n hx hb dX4_layRuns_145 rfl (lv_at hl 3 rfl) ?_
                        obtain ⟨hz146, hf⟩ := gd_some hf
                        refine va_iast hx hb hK.1 hP hD hS 5 0 rfl rfl hz146 dX4_layRuns_146 (fun H locs hP hD hS => ?_)
                        have hP : va_P D vwCl (wM cI cZ md mth msz mrn_58 mmy mdf mgu mhs mlv mba mgi (upd mfi_58 ((mrn_58 : Int32)).toNatClampNeg (t0_51 + (t0_30 * (v5_58 - v4_58)))) (upd mle_58 ((mrn_58 : Int32)).toNatClampNeg v4_58) (upd mst_58 ((mrn_58 : Int32)).toNatClampNeg t0_30) msu_58 mtr mdi mfa mca) H := hP
                        have hD : va_D A (wM cI cZ md mth msz mrn_58 mmy mdf mgu mhs mlv mba mgi (upd mfi_58 ((mrn_58 : Int32)).toNatClampNeg (t0_51 + (t0_30 * (v5_58 - v4_58)))) (upd mle_58 ((mrn_58 : Int32)).toNatClampNeg v4_58) (upd mst_58 ((mrn_58 : Int32)).toNatClampNeg t0_30) msu_58 mtr mdi mfa mca) := hD
                        refine lv_aload_n hx hb dX4_layRuns_147 rfl (lv_at hl 1 rfl) ?_
                        refine va_get (D := D) (ci := 4) (v := .ref (md 6)) (C := RX4) (T := TX4) (N := 18) hx hb hts hinX4 hown hK.1 hP 0 rfl rfl 8 (by decide) (hts (.fieldLink RX4 30 "GridpuzzleModel" "sums" "[I") (by decide +kernel)) (fun _ h9 => h9) rfl dX4_layRuns_148 ?_
                        refine lv_aload_n hx hb dX4_layRuns_151 rfl (lv_at hl 1 rfl) ?_
                        refine va_get (D := D) (ci := 4) (v := .int mrn_58) (C := RX4) (T := TX4) (N := 18) hx hb hts hinX4 hown hK.1 hP 0 rfl rfl 4 (by decide) (hts (.fieldLink RX4 59 "GridpuzzleModel" "runs" "I") (by decide +kernel)) (fun _ h9 => h9) rfl dX4_layRuns_152 ?_
                        refine lv_iconst (v := 0) hx hb dX4_layRuns_155 (by decide) ?_
                        obtain ⟨hz156, hf⟩ := gd_some hf
                        refine va_iast hx hb hK.1 hP hD hS 6 0 rfl rfl hz156 dX4_layRuns_156 (fun H locs hP hD hS => ?_)
                        have hP : va_P D vwCl (wM cI cZ md mth msz mrn_58 mmy mdf mgu mhs mlv mba mgi (upd mfi_58 ((mrn_58 : Int32)).toNatClampNeg (t0_51 + (t0_30 * (v5_58 - v4_58)))) (upd mle_58 ((mrn_58 : Int32)).toNatClampNeg v4_58) (upd mst_58 ((mrn_58 : Int32)).toNatClampNeg t0_30) (upd msu_58 ((mrn_58 : Int32)).toNatClampNeg 0) mtr mdi mfa mca) H := hP
                        have hD : va_D A (wM cI cZ md mth msz mrn_58 mmy mdf mgu mhs mlv mba mgi (upd mfi_58 ((mrn_58 : Int32)).toNatClampNeg (t0_51 + (t0_30 * (v5_58 - v4_58)))) (upd mle_58 ((mrn_58 : Int32)).toNatClampNeg v4_58) (upd mst_58 ((mrn_58 : Int32)).toNatClampNeg t0_30) (upd msu_58 ((mrn_58 : Int32)).toNatClampNeg 0) mtr mdi mfa mca) := hD
                        refine lv_aload_n hx hb dX4_layRuns_157 rfl (lv_at hl 1 rfl) ?_
                        refine lv_dup hx hb dX4_layRuns_158 rfl ?_
                        refine va_get (D := D) (ci := 4) (v := .int mrn_58) (C := RX4) (T := TX4) (N := 18) hx hb hts hinX4 hown hK.1 hP 0 rfl rfl 4 (by decide) (hts (.fieldLink RX4 59 "GridpuzzleModel" "runs" "I") (by decide +kernel)) (fun _ h9 => h9) rfl dX4_layRuns_159 ?_
                        refine lv_iconst (v := 1) hx hb dX4_layRuns_162 (by decide) ?_
                        refine lv_iadd hx hb dX4_layRuns_163 ?_
                        refine va_put (D := D) (ci := 4) (v := .int (mrn_58 + 1)) (ty := .int) (C := RX4) (T := TX4) (N := 18) hx hb hts hinX4 tyX4 tyX4_ok nmX4 hown hK.1 hP hD hS 0 rfl rfl 4 (by decide) (hts (.fieldLink RX4 59 "GridpuzzleModel" "runs" "I") (by decide +kernel)) (fun _ h9 => h9) rfl (by decide +kernel) rfl rfl (Nat.le_of_ble_eq_true rfl) dX4_layRuns_164 (fun H locs hP hD hS => ?_)
                        have hP : va_P D vwCl (wM cI cZ md mth msz (mrn_58 + 1) mmy mdf mgu mhs mlv mba mgi (upd mfi_58 ((mrn_58 : Int32)).toNatClampNeg (t0_51 + (t0_30 * (v5_58 - v4_58)))) (upd mle_58 ((mrn_58 : Int32)).toNatClampNeg v4_58) (upd mst_58 ((mrn_58 : Int32)).toNatClampNeg t0_30) (upd msu_58 ((mrn_58 : Int32)).toNatClampNeg 0) mtr mdi mfa mca) H := hP
                        have hD : va_D A (wM cI cZ md mth msz (mrn_58 + 1) mmy mdf mgu mhs mlv mba mgi (upd mfi_58 ((mrn_58 : Int32)).toNatClampNeg (t0_51 + (t0_30 * (v5_58 - v4_58)))) (upd mle_58 ((mrn_58 : Int32)).toNatClampNeg v4_58) (upd mst_58 ((mrn_58 : Int32)).toNatClampNeg t0_30) (upd msu_58 ((mrn_58 : Int32)).toNatClampNeg 0) mtr mdi mfa mca) := hD
                        exact w167 (mrn_58 + 1) (upd mfi_58 ((mrn_58 : Int32)).toNatClampNeg (t0_51 + (t0_30 * (v5_58 - v4_58)))) (upd mle_58 ((mrn_58 : Int32)).toNatClampNeg v4_58) (upd mst_58 ((mrn_58 : Int32)).toNatClampNeg t0_30) (upd msu_58 ((mrn_58 : Int32)).toNatClampNeg 0) hf _ _ _ hP hD hS (lv_sub hl [1, 2, 3, 4, 5, 6, 0] rfl)
                  obtain ⟨k94, hk94, hf⟩ := jn_some hf
                  have w94 : ∀ (_ : Unit), k94 () = some r → ∀ (H : Heap) (locs : List Loc) (ls : Array Slot), va_P D vwCl (wM cI cZ md mth msz mrn_58 mmy mdf mgu mhs mlv mba mgi mfi_58 mle_58 mst_58 msu_58 mtr mdi mfa mca) H → va_D A (wM cI cZ md mth msz mrn_58 mmy mdf mgu mhs mlv mba mgi mfi_58 mle_58 mst_58 msu_58 mtr mdi mfa mca) → va_S A s.heap H locs → lv_has ls 7 [(0, .ref (md 0)), (1, .int v1_7), (2, .int t0_30), (3, .int t0_51), (4, .int v4_58), (5, .int v5_58)] → W p l e rm_X4_layRuns s m args below meth c H locs 0 0 Q (F0 m 94 ls []) := by
                    intro _ hf H locs ls hP hD hS hl
                    rw [hk94] at hf
                    try dsimp only at hf
                    refine lv_iconst (v := 0) hx hb dX4_layRuns_94 (by decide) ?_
                    exact w95 0 hf _ _ _ hP hD hS (lv_sub hl [0, 1, 2, 3, 4, 5] rfl)
                  refine lv_icmp_ge (tgt := 94) hx hb dX4_layRuns_73 (by decide) (fun c_73 => ?_) (fun c_73 => ?_)
                  · have hf := ite_t c_73 hf
                    exact w94 () hf _ _ _ hP hD hS (lv_sub hl [0, 1, 2, 3, 4, 5] rfl)
                  · have hf := ite_f c_73 hf
                    refine lv_aload_n hx hb dX4_layRuns_76 rfl (lv_at hl 0 rfl) ?_
                    refine va_get (D := D) (ci := 4) (v := .ref (md 1)) (C := RX4) (T := TX4) (N := 18) hx hb hts hinX4 hown hK.1 hP 0 rfl rfl 2 (by decide) (hts (.fieldLink RX4 13 "GridpuzzleModel" "isBarred" "[Z") (by decide +kernel)) (fun _ h9 => h9) rfl dX4_layRuns_77 ?_
                    refine lv_iload_n hx hb dX4_layRuns_80 rfl (lv_at hl 3 rfl) ?_
                    refine lv_iload_n hx hb dX4_layRuns_81 rfl (lv_at hl 2 rfl) ?_
                    refine lv_iload hx hb dX4_layRuns_82 (lv_at hl 5 rfl) ?_
                    refine lv_imul hx hb dX4_layRuns_84 ?_
                    refine lv_iadd hx hb dX4_layRuns_85 ?_
                    obtain ⟨hz86, hf⟩ := gd_some hf
                    refine va_zald hx hb hK.1 hP 1 1 rfl rfl hz86 dX4_layRuns_86 ?_
                    refine lv_if_ne (tgt := 94) hx hb dX4_layRuns_87 (by decide) (fun c_87 => ?_) (fun c_87 => ?_)
                    · have hf := ite_f c_87 hf
                      exact w94 () hf _ _ _ hP hD hS (lv_sub hl [0, 1, 2, 3, 4, 5] rfl)
                    · have hf := ite_t c_87 hf
                      refine lv_iconst (v := 1) hx hb dX4_layRuns_90 (by decide) ?_
                      refine lv_goto (tgt := 95) hx hb dX4_layRuns_91 (by decide) ?_
                      exact w95 1 hf _ _ _ hP hD hS (lv_sub hl [0, 1, 2, 3, 4, 5] rfl)
            exact l58 N 0 0 mrn_7 mfi_7 mle_7 mst_7 msu_7 hf _ _ _ hP hD hS (lv_sub hl [3, 4, 5, 2, 1, 0] rfl)
          refine lv_icmp_ge (tgt := 45) hx hb dX4_layRuns_36 (by decide) (fun c_36 => ?_) (fun c_36 => ?_)
          · have hf := ite_t c_36 hf
            refine lv_iload_n hx hb dX4_layRuns_45 rfl (lv_at hl 2 rfl) ?_
            refine lv_aload_n hx hb dX4_layRuns_46 rfl (lv_at hl 1 rfl) ?_
            refine va_get (D := D) (ci := 4) (v := .int msz) (C := RX4) (T := TX4) (N := 18) hx hb hts hinX4 hown hK.1 hP 0 rfl rfl 1 (by decide) (hts (.fieldLink RX4 7 "GridpuzzleModel" "size" "I") (by decide +kernel)) (fun _ h9 => h9) rfl dX4_layRuns_47 ?_
            refine lv_isub hx hb dX4_layRuns_50 ?_
            exact w51 (v1_7 - msz) hf _ _ _ hP hD hS (lv_sub hl [1, 2, 0] rfl)
          · have hf := ite_f c_36 hf
            refine lv_iconst (v := 4) hx hb dX4_layRuns_39 (by decide) ?_
            refine lv_iload_n hx hb dX4_layRuns_40 rfl (lv_at hl 2 rfl) ?_
            refine lv_imul hx hb dX4_layRuns_41 ?_
            refine lv_goto (tgt := 51) hx hb dX4_layRuns_42 (by decide) ?_
            exact w51 (4 * v1_7) hf _ _ _ hP hD hS (lv_sub hl [1, 2, 0] rfl)
        refine lv_icmp_ge (tgt := 29) hx hb dX4_layRuns_22 (by decide) (fun c_22 => ?_) (fun c_22 => ?_)
        · have hf := ite_t c_22 hf
          refine lv_iconst (v := 4) hx hb dX4_layRuns_29 (by decide) ?_
          exact w30 4 hf _ _ _ hP hD hS (lv_sub hl [0, 1] rfl)
        · have hf := ite_f c_22 hf
          refine lv_iconst (v := 1) hx hb dX4_layRuns_25 (by decide) ?_
          refine lv_goto (tgt := 30) hx hb dX4_layRuns_26 (by decide) ?_
          exact w30 1 hf _ _ _ hP hD hS (lv_sub hl [0, 1] rfl)
  exact l7 N 0 0 mfi mle mst msu hf _ _ _ hP hD hS (lv_sub hl [1, 0] rfl)
def rm_X4_begin : Room := { frames := 1, cells := 0, slots := 0, locals := 26 }
set_option maxRecDepth 100000 in
set_option maxHeartbeats 8000000 in
theorem K_X4_begin (l : Launch) (D : va_G) (cI cZ : ClassId) (md : Nat → Nat) (sz : Nat) (N : Nat) (mth msz mrn mmy mdf mgu mhs mlv : Int32) (mba mgi mfi mle mst msu mtr mdi mfa mca : Nat → Int32) (p1 : Int32) (r : (Int32 × Int32 × Int32 × (Nat → Int32) × (Nat → Int32) × (Nat → Int32) × (Nat → Int32) × (Nat → Int32) × (Nat → Int32))) (hf : f_X4_begin N mth msz mrn mba mgi mfi mle mst msu p1 = some r) : Met l yX4_begin wsX4_begin rm_X4_begin (PC D cI cZ sz [.ref (md 0), .int p1] (wM cI cZ md mth msz mrn mmy mdf mgu mhs mlv mba mgi mfi mle mst msu mtr mdi mfa mca)) (QV D cI cZ sz (wM cI cZ md mth msz mrn mmy mdf mgu mhs mlv mba mgi mfi mle mst msu mtr mdi mfa mca) (wM cI cZ md r.1 r.2.1 r.2.2.1 mmy mdf mgu mhs mlv r.2.2.2.1 r.2.2.2.2.1 r.2.2.2.2.2.1 r.2.2.2.2.2.2.1 r.2.2.2.2.2.2.2.1 r.2.2.2.2.2.2.2.2 mtr mdi mfa mca)) 0 0 (va_A (wM cI cZ md mth msz mrn mmy mdf mgu mhs mlv mba mgi mfi mle mst msu mtr mdi mfa mca) sz) := by
  refine mk_v (cc := cX4_begin) (maxL := 3) (lv0 := [(0, .ref (md 0)), (1, .int p1)]) (by decide) rfl (Nat.le_of_ble_eq_true rfl) rfl ?_
  intro p e s m args below meth c ls A Q H hx hb hml hown hts hK hP hD hA hS hl hR
  have hinX4 : ∀ w ∈ wsX40, w ∈ wsX4_begin := by decide +kernel
  rw [f_X4_begin] at hf
  refine lv_aload_n hx hb dX4_begin_0 rfl (lv_at hl 0 rfl) ?_
  refine lv_iload_n hx hb dX4_begin_1 rfl (lv_at hl 1 rfl) ?_
  refine lv_iconst (v := 2) hx hb dX4_begin_2 (by decide) ?_
  refine lv_iconst (v := 4) hx hb dX4_begin_3 (by decide) ?_
  refine clS_i (As := [.int p1, .int 2, .int 4]) (rest := [.ref (md 0)]) (wM cI cZ md mth msz mrn mmy mdf mgu mhs mlv mba mgi mfi mle mst msu mtr mdi mfa mca) ⟨hx, hb, hml, hown, hts⟩ (K_X4_in l D cI cZ H.size  p1 2 4 _ rfl) (va_cwS 3 hts gX4_begin_X4_in rfl rfl rfl (by decide +kernel) ⟨Nat.le_of_ble_eq_true rfl, Nat.le_of_ble_eq_true rfl⟩) hK hP hD hS hA hl.1 [] (by decide) rfl rfl rfl rfl rfl (Nat.le_of_ble_eq_true rfl) dX4_begin_4 ⟨Nat.le_of_ble_eq_true rfl, Nat.le_of_ble_eq_true rfl⟩ (fun H locs hP hD hS => ?_)
  obtain ⟨k15, hk15, hf⟩ := jn_some hf
  have w15 : ∀ (t0_15 : Int32), k15 t0_15 = some r → ∀ (H : Heap) (locs : List Loc) (ls : Array Slot), va_P D vwCl (wM cI cZ md mth msz mrn mmy mdf mgu mhs mlv mba mgi mfi mle mst msu mtr mdi mfa mca) H → va_D A (wM cI cZ md mth msz mrn mmy mdf mgu mhs mlv mba mgi mfi mle mst msu mtr mdi mfa mca) → va_S A s.heap H locs → lv_has ls 3 [(0, .ref (md 0)), (1, .int p1)] → W p l e rm_X4_begin s m args below meth c H locs 0 0 Q (F0 m 15 ls [.int t0_15, .ref (md 0)]) := by
    intro t0_15 hf H locs ls hP hD hS hl
    rw [hk15] at hf
    try dsimp only at hf
    obtain ⟨x15, hy15, hf⟩ := jn_some hf
    refine clV_i (As := [.int t0_15]) (rest := []) (wM cI cZ md x15.2 msz mrn mmy mdf mgu mhs mlv mba mgi mfi mle mst msu mtr mdi mfa mca) ⟨hx, hb, hml, hown, hts⟩ (K_X4_goesWell l D cI cZ md H.size mth msz mrn mmy mdf mgu mhs mlv mba mgi mfi mle mst msu mtr mdi mfa mca t0_15 _ hy15.symm) (cwV 1 hts gX4_begin_X4_goesWell rfl rfl rfl (by decide +kernel) ⟨Nat.le_of_ble_eq_true rfl, Nat.le_of_ble_eq_true rfl⟩) hK hP hD hS hA hl.1 [0, 1, 2, 3, 4, 5, 6, 7, 8, 9, 10] (by decide) rfl rfl rfl 4 0 rfl rfl rfl rfl rfl (Nat.le_of_ble_eq_true rfl) dX4_begin_15 ⟨Nat.le_of_ble_eq_true rfl, Nat.le_of_ble_eq_true rfl⟩ (fun H locs hP hD hS => ?_)
    refine lv_if_eq (tgt := 58) hx hb dX4_begin_18 (by decide) (fun c_18 => ?_) (fun c_18 => ?_)
    · have hf := ite_t c_18 hf
      cases hf
      exact hR _ _ _ _ _ rfl hP hD hS dX4_begin_58
    · have hf := ite_f c_18 hf
      refine lv_aload_n hx hb dX4_begin_21 rfl (lv_at hl 0 rfl) ?_
      refine lv_iload_n hx hb dX4_begin_22 rfl (lv_at hl 1 rfl) ?_
      refine va_put (D := D) (ci := 4) (v := .int p1) (ty := .int) (C := RX4) (T := TX4) (N := 18) hx hb hts hinX4 tyX4 tyX4_ok nmX4 hown hK.1 hP hD hS 0 rfl rfl 1 (by decide) (hts (.fieldLink RX4 7 "GridpuzzleModel" "size" "I") (by decide +kernel)) (fun _ h9 => h9) rfl (by decide +kernel) rfl rfl (Nat.le_of_ble_eq_true rfl) dX4_begin_23 (fun H locs hP hD hS => ?_)
      have hP : va_P D vwCl (wM cI cZ md x15.2 p1 mrn mmy mdf mgu mhs mlv mba mgi mfi mle mst msu mtr mdi mfa mca) H := hP
      have hD : va_D A (wM cI cZ md x15.2 p1 mrn mmy mdf mgu mhs mlv mba mgi mfi mle mst msu mtr mdi mfa mca) := hD
      refine lv_iconst (v := 0) hx hb dX4_begin_26 (by decide) ?_
      refine lv_istore_n (lv' := [(2, .int 0), (0, .ref (md 0)), (1, .int p1)]) hx hb dX4_begin_27 rfl hl (by decide) rfl (fun ls hl => ?_)
      obtain ⟨k54, hk54, hf⟩ := jn_some hf
      have w54 : ∀ (mba_54 : Nat → Int32) (mgi_54 : Nat → Int32), k54 mba_54 mgi_54 = some r → ∀ (H : Heap) (locs : List Loc) (ls : Array Slot), va_P D vwCl (wM cI cZ md x15.2 p1 mrn mmy mdf mgu mhs mlv mba_54 mgi_54 mfi mle mst msu mtr mdi mfa mca) H → va_D A (wM cI cZ md x15.2 p1 mrn mmy mdf mgu mhs mlv mba_54 mgi_54 mfi mle mst msu mtr mdi mfa mca) → va_S A s.heap H locs → lv_has ls 3 [(0, .ref (md 0))] → W p l e rm_X4_begin s m args below meth c H locs 0 0 Q (F0 m 54 ls []) := by
        intro mba_54 mgi_54 hf H locs ls hP hD hS hl
        rw [hk54] at hf
        try dsimp only at hf
        refine lv_aload_n hx hb dX4_begin_54 rfl (lv_at hl 0 rfl) ?_
        obtain ⟨x55, hy55, hf⟩ := Option.bind_eq_some_iff.mp hf
        refine clV_v (As := []) (rest := []) (wM cI cZ md x15.2 p1 x55.1 mmy mdf mgu mhs mlv mba_54 mgi_54 x55.2.1 x55.2.2.1 x55.2.2.2.1 x55.2.2.2.2 mtr mdi mfa mca) ⟨hx, hb, hml, hown, hts⟩ (K_X4_layRuns l D cI cZ md H.size N x15.2 p1 mrn mmy mdf mgu mhs mlv mba_54 mgi_54 mfi mle mst msu mtr mdi mfa mca _ hy55) (cwV 0 hts gX4_begin_X4_layRuns rfl rfl rfl (by decide +kernel) ⟨Nat.le_of_ble_eq_true rfl, Nat.le_of_ble_eq_true rfl⟩) hK hP hD hS hA hl.1 [0, 1, 2, 3, 4, 5, 6, 7, 8, 9, 10] (by decide) rfl rfl rfl 4 0 rfl rfl rfl rfl rfl (Nat.le_of_ble_eq_true rfl) dX4_begin_55 ⟨Nat.le_of_ble_eq_true rfl, Nat.le_of_ble_eq_true rfl⟩ (fun H locs hP hD hS => ?_)
        cases hf
        exact hR _ _ _ _ _ rfl hP hD hS dX4_begin_58
      have l28 : ∀ (nn : Nat) (v2_28 : Int32) (mba_28 : Nat → Int32) (mgi_28 : Nat → Int32), f_X4_begin_L28 k54 nn v2_28 mba_28 mgi_28 = some r → ∀ (H : Heap) (locs : List Loc) (ls : Array Slot), va_P D vwCl (wM cI cZ md x15.2 p1 mrn mmy mdf mgu mhs mlv mba_28 mgi_28 mfi mle mst msu mtr mdi mfa mca) H → va_D A (wM cI cZ md x15.2 p1 mrn mmy mdf mgu mhs mlv mba_28 mgi_28 mfi mle mst msu mtr mdi mfa mca) → va_S A s.heap H locs → lv_has ls 3 [(0, .ref (md 0)), (2, .int v2_28)] → W p l e rm_X4_begin s m args below meth c H locs 0 0 Q (F0 m 28 ls []) := by
        intro nn
        induction nn with
        | zero => intro _ _ _ hf; exact nomatch (show (none : Option _) = some r from hf)
        | succ n28 ih28 =>
          intro v2_28 mba_28 mgi_28 hf H locs ls hP hD hS hl
          rw [f_X4_begin_L28.eq_2] at hf
          refine lv_iload_n hx hb dX4_begin_28 rfl (lv_at hl 1 rfl) ?_
          refine lv_bipush (v := 16) hx hb dX4_begin_29 (by decide) ?_
          refine lv_icmp_ge (tgt := 54) hx hb dX4_begin_31 (by decide) (fun c_31 => ?_) (fun c_31 => ?_)
          · have hf := ite_t c_31 hf
            exact w54 mba_28 mgi_28 hf _ _ _ hP hD hS (lv_sub hl [0] rfl)
          · have hf := ite_f c_31 hf
            refine lv_aload_n hx hb dX4_begin_34 rfl (lv_at hl 0 rfl) ?_
            refine va_get (D := D) (ci := 4) (v := .ref (md 1)) (C := RX4) (T := TX4) (N := 18) hx hb hts hinX4 hown hK.1 hP 0 rfl rfl 2 (by decide) (hts (.fieldLink RX4 13 "GridpuzzleModel" "isBarred" "[Z") (by decide +kernel)) (fun _ h9 => h9) rfl dX4_begin_35 ?_
            refine lv_iload_n hx hb dX4_begin_38 rfl (lv_at hl 1 rfl) ?_
            refine lv_iconst (v := 0) hx hb dX4_begin_39 (by decide) ?_
            obtain ⟨hz40, hf⟩ := gd_some hf
            refine va_zast hx hb hK.1 hP hD hS 1 1 rfl rfl hz40 dX4_begin_40 (fun H locs hP hD hS => ?_)
            have hP : va_P D vwCl (wM cI cZ md x15.2 p1 mrn mmy mdf mgu mhs mlv (upd mba_28 ((v2_28 : Int32)).toNatClampNeg (vp_nar .boolean 0)) mgi_28 mfi mle mst msu mtr mdi mfa mca) H := hP
            have hD : va_D A (wM cI cZ md x15.2 p1 mrn mmy mdf mgu mhs mlv (upd mba_28 ((v2_28 : Int32)).toNatClampNeg (vp_nar .boolean 0)) mgi_28 mfi mle mst msu mtr mdi mfa mca) := hD
            refine lv_aload_n hx hb dX4_begin_41 rfl (lv_at hl 0 rfl) ?_
            refine va_get (D := D) (ci := 4) (v := .ref (md 2)) (C := RX4) (T := TX4) (N := 18) hx hb hts hinX4 hown hK.1 hP 0 rfl rfl 3 (by decide) (hts (.fieldLink RX4 17 "GridpuzzleModel" "given" "[I") (by decide +kernel)) (fun _ h9 => h9) rfl dX4_begin_42 ?_
            refine lv_iload_n hx hb dX4_begin_45 rfl (lv_at hl 1 rfl) ?_
            refine lv_iconst (v := 0) hx hb dX4_begin_46 (by decide) ?_
            obtain ⟨hz47, hf⟩ := gd_some hf
            refine va_iast hx hb hK.1 hP hD hS 2 0 rfl rfl hz47 dX4_begin_47 (fun H locs hP hD hS => ?_)
            have hP : va_P D vwCl (wM cI cZ md x15.2 p1 mrn mmy mdf mgu mhs mlv (upd mba_28 ((v2_28 : Int32)).toNatClampNeg (vp_nar .boolean 0)) (upd mgi_28 ((v2_28 : Int32)).toNatClampNeg 0) mfi mle mst msu mtr mdi mfa mca) H := hP
            have hD : va_D A (wM cI cZ md x15.2 p1 mrn mmy mdf mgu mhs mlv (upd mba_28 ((v2_28 : Int32)).toNatClampNeg (vp_nar .boolean 0)) (upd mgi_28 ((v2_28 : Int32)).toNatClampNeg 0) mfi mle mst msu mtr mdi mfa mca) := hD
            refine lv_iinc (v := (v2_28 + 1)) (lv' := [(2, .int (v2_28 + 1)), (0, .ref (md 0))]) hx hb dX4_begin_48 hl (k := 1) rfl rfl (by decide) rfl (fun ls hl => ?_)
            refine lv_goto (tgt := 28) hx hb dX4_begin_51 (by decide) ?_
            exact ih28 (v2_28 + 1) (upd mba_28 ((v2_28 : Int32)).toNatClampNeg (vp_nar .boolean 0)) (upd mgi_28 ((v2_28 : Int32)).toNatClampNeg 0) hf _ _ _ hP hD hS (lv_sub hl [1, 0] rfl)
      exact l28 N 0 mba mgi hf _ _ _ hP hD hS (lv_sub hl [1, 0] rfl)
  refine lv_if_eq (tgt := 14) hx hb dX4_begin_7 (by decide) (fun c_7 => ?_) (fun c_7 => ?_)
  · have hf := ite_t c_7 hf
    refine lv_iconst (v := 1) hx hb dX4_begin_14 (by decide) ?_
    exact w15 1 hf _ _ _ hP hD hS (lv_sub hl [0, 1] rfl)
  · have hf := ite_f c_7 hf
    refine lv_iconst (v := 0) hx hb dX4_begin_10 (by decide) ?_
    refine lv_goto (tgt := 15) hx hb dX4_begin_11 (by decide) ?_
    exact w15 0 hf _ _ _ hP hD hS (lv_sub hl [0, 1] rfl)
def rm_X4_turn : Room := { frames := 0, cells := 0, slots := 0, locals := 0 }
set_option maxRecDepth 100000 in
set_option maxHeartbeats 8000000 in
theorem K_X4_turn (l : Launch) (D : va_G) (cI cZ : ClassId) (md : Nat → Nat) (sz : Nat) (mth msz mrn mmy mdf mgu mhs mlv : Int32) (mba mgi mfi mle mst msu mtr mdi mfa mca : Nat → Int32) (p1 : Int32) (r : ((Nat → Int32) × (Nat → Int32))) (hf : f_X4_turn mba mgi p1 = some r) : Met l yX4_turn wsX4_turn rm_X4_turn (PC D cI cZ sz [.ref (md 0), .int p1] (wM cI cZ md mth msz mrn mmy mdf mgu mhs mlv mba mgi mfi mle mst msu mtr mdi mfa mca)) (QV D cI cZ sz (wM cI cZ md mth msz mrn mmy mdf mgu mhs mlv mba mgi mfi mle mst msu mtr mdi mfa mca) (wM cI cZ md mth msz mrn mmy mdf mgu mhs mlv r.1 r.2 mfi mle mst msu mtr mdi mfa mca)) 0 0 (va_A (wM cI cZ md mth msz mrn mmy mdf mgu mhs mlv mba mgi mfi mle mst msu mtr mdi mfa mca) sz) := by
  refine mk_v (cc := cX4_turn) (maxL := 2) (lv0 := [(0, .ref (md 0)), (1, .int p1)]) (by decide) rfl (Nat.le_of_ble_eq_true rfl) rfl ?_
  intro p e s m args below meth c ls A Q H hx hb hml hown hts hK hP hD hA hS hl hR
  have hinX4 : ∀ w ∈ wsX40, w ∈ wsX4_turn := by decide +kernel
  rw [f_X4_turn] at hf
  refine lv_aload_n hx hb dX4_turn_0 rfl (lv_at hl 0 rfl) ?_
  refine va_get (D := D) (ci := 4) (v := .ref (md 1)) (C := RX4) (T := TX4) (N := 18) hx hb hts hinX4 hown hK.1 hP 0 rfl rfl 2 (by decide) (hts (.fieldLink RX4 13 "GridpuzzleModel" "isBarred" "[Z") (by decide +kernel)) (fun _ h9 => h9) rfl dX4_turn_1 ?_
  refine lv_iload_n hx hb dX4_turn_4 rfl (lv_at hl 1 rfl) ?_
  refine lv_aload_n hx hb dX4_turn_5 rfl (lv_at hl 0 rfl) ?_
  refine va_get (D := D) (ci := 4) (v := .ref (md 1)) (C := RX4) (T := TX4) (N := 18) hx hb hts hinX4 hown hK.1 hP 0 rfl rfl 2 (by decide) (hts (.fieldLink RX4 13 "GridpuzzleModel" "isBarred" "[Z") (by decide +kernel)) (fun _ h9 => h9) rfl dX4_turn_6 ?_
  refine lv_iload_n hx hb dX4_turn_9 rfl (lv_at hl 1 rfl) ?_
  obtain ⟨hz10, hf⟩ := gd_some hf
  refine va_zald hx hb hK.1 hP 1 1 rfl rfl hz10 dX4_turn_10 ?_
  obtain ⟨k19, hk19, hf⟩ := jn_some hf
  have w19 : ∀ (t0_19 : Int32), k19 t0_19 = some r → ∀ (H : Heap) (locs : List Loc) (ls : Array Slot), va_P D vwCl (wM cI cZ md mth msz mrn mmy mdf mgu mhs mlv mba mgi mfi mle mst msu mtr mdi mfa mca) H → va_D A (wM cI cZ md mth msz mrn mmy mdf mgu mhs mlv mba mgi mfi mle mst msu mtr mdi mfa mca) → va_S A s.heap H locs → lv_has ls 2 [(0, .ref (md 0)), (1, .int p1)] → W p l e rm_X4_turn s m args below meth c H locs 0 0 Q (F0 m 19 ls [.int t0_19, .int p1, .ref (md 1)]) := by
    intro t0_19 hf H locs ls hP hD hS hl
    rw [hk19] at hf
    try dsimp only at hf
    obtain ⟨hz19, hf⟩ := gd_some hf
    refine va_zast hx hb hK.1 hP hD hS 1 1 rfl rfl hz19 dX4_turn_19 (fun H locs hP hD hS => ?_)
    have hP : va_P D vwCl (wM cI cZ md mth msz mrn mmy mdf mgu mhs mlv (upd mba ((p1 : Int32)).toNatClampNeg (vp_nar .boolean t0_19)) mgi mfi mle mst msu mtr mdi mfa mca) H := hP
    have hD : va_D A (wM cI cZ md mth msz mrn mmy mdf mgu mhs mlv (upd mba ((p1 : Int32)).toNatClampNeg (vp_nar .boolean t0_19)) mgi mfi mle mst msu mtr mdi mfa mca) := hD
    refine lv_aload_n hx hb dX4_turn_20 rfl (lv_at hl 0 rfl) ?_
    refine va_get (D := D) (ci := 4) (v := .ref (md 2)) (C := RX4) (T := TX4) (N := 18) hx hb hts hinX4 hown hK.1 hP 0 rfl rfl 3 (by decide) (hts (.fieldLink RX4 17 "GridpuzzleModel" "given" "[I") (by decide +kernel)) (fun _ h9 => h9) rfl dX4_turn_21 ?_
    refine lv_iload_n hx hb dX4_turn_24 rfl (lv_at hl 1 rfl) ?_
    refine lv_iconst (v := 0) hx hb dX4_turn_25 (by decide) ?_
    obtain ⟨hz26, hf⟩ := gd_some hf
    refine va_iast hx hb hK.1 hP hD hS 2 0 rfl rfl hz26 dX4_turn_26 (fun H locs hP hD hS => ?_)
    have hP : va_P D vwCl (wM cI cZ md mth msz mrn mmy mdf mgu mhs mlv (upd mba ((p1 : Int32)).toNatClampNeg (vp_nar .boolean t0_19)) (upd mgi ((p1 : Int32)).toNatClampNeg 0) mfi mle mst msu mtr mdi mfa mca) H := hP
    have hD : va_D A (wM cI cZ md mth msz mrn mmy mdf mgu mhs mlv (upd mba ((p1 : Int32)).toNatClampNeg (vp_nar .boolean t0_19)) (upd mgi ((p1 : Int32)).toNatClampNeg 0) mfi mle mst msu mtr mdi mfa mca) := hD
    cases hf
    exact hR _ _ _ _ _ rfl hP hD hS dX4_turn_27
  refine lv_if_ne (tgt := 18) hx hb dX4_turn_11 (by decide) (fun c_11 => ?_) (fun c_11 => ?_)
  · have hf := ite_f c_11 hf
    refine lv_iconst (v := 0) hx hb dX4_turn_18 (by decide) ?_
    exact w19 0 hf _ _ _ hP hD hS (lv_sub hl [0, 1] rfl)
  · have hf := ite_t c_11 hf
    refine lv_iconst (v := 1) hx hb dX4_turn_14 (by decide) ?_
    refine lv_goto (tgt := 19) hx hb dX4_turn_15 (by decide) ?_
    exact w19 1 hf _ _ _ hP hD hS (lv_sub hl [0, 1] rfl)
def rm_X4_bar : Room := { frames := 2, cells := 0, slots := 0, locals := 43 }
set_option maxRecDepth 100000 in
set_option maxHeartbeats 8000000 in
theorem K_X4_bar (l : Launch) (D : va_G) (cI cZ : ClassId) (md : Nat → Nat) (sz : Nat) (N : Nat) (mth msz mrn mmy mdf mgu mhs mlv : Int32) (mba mgi mfi mle mst msu mtr mdi mfa mca : Nat → Int32) (p1 : Int32) (r : (Int32 × Int32 × Int32 × (Nat → Int32) × (Nat → Int32) × (Nat → Int32) × (Nat → Int32) × (Nat → Int32) × (Nat → Int32))) (hf : f_X4_bar N mth msz mrn mba mgi mfi mle mst msu p1 = some r) : Met l yX4_bar wsX4_bar rm_X4_bar (PC D cI cZ sz [.ref (md 0), .int p1] (wM cI cZ md mth msz mrn mmy mdf mgu mhs mlv mba mgi mfi mle mst msu mtr mdi mfa mca)) (QI D cI cZ sz (wM cI cZ md mth msz mrn mmy mdf mgu mhs mlv mba mgi mfi mle mst msu mtr mdi mfa mca) r.1 (wM cI cZ md r.2.1 msz r.2.2.1 mmy mdf mgu mhs mlv r.2.2.2.1 r.2.2.2.2.1 r.2.2.2.2.2.1 r.2.2.2.2.2.2.1 r.2.2.2.2.2.2.2.1 r.2.2.2.2.2.2.2.2 mtr mdi mfa mca)) 0 0 (va_A (wM cI cZ md mth msz mrn mmy mdf mgu mhs mlv mba mgi mfi mle mst msu mtr mdi mfa mca) sz) := by
  refine mk_z (cc := cX4_bar) (maxL := 2) (lv0 := [(0, .ref (md 0)), (1, .int p1)]) (by decide) rfl (Nat.le_of_ble_eq_true rfl) rfl ?_
  intro p e s m args below meth c ls A Q H hx hb hml hown hts hK hP hD hA hS hl hR
  have hinX4 : ∀ w ∈ wsX40, w ∈ wsX4_bar := by decide +kernel
  rw [f_X4_bar] at hf
  refine lv_aload_n hx hb dX4_bar_0 rfl (lv_at hl 0 rfl) ?_
  refine lv_aload_n hx hb dX4_bar_1 rfl (lv_at hl 0 rfl) ?_
  refine lv_iload_n hx hb dX4_bar_2 rfl (lv_at hl 1 rfl) ?_
  refine clV_i (As := [.int p1]) (rest := [.ref (md 0)]) (wM cI cZ md mth msz mrn mmy mdf mgu mhs mlv mba mgi mfi mle mst msu mtr mdi mfa mca) ⟨hx, hb, hml, hown, hts⟩ (K_X4_isCell l D cI cZ md H.size mth msz mrn mmy mdf mgu mhs mlv mba mgi mfi mle mst msu mtr mdi mfa mca p1 _ rfl) (cwV 1 hts gX4_bar_X4_isCell rfl rfl rfl (by decide +kernel) ⟨Nat.le_of_ble_eq_true rfl, Nat.le_of_ble_eq_true rfl⟩) hK hP hD hS hA hl.1 [0, 1, 2, 3, 4, 5, 6, 7, 8, 9, 10] (by decide) rfl rfl rfl 4 0 rfl rfl rfl rfl rfl (Nat.le_of_ble_eq_true rfl) dX4_bar_3 ⟨Nat.le_of_ble_eq_true rfl, Nat.le_of_ble_eq_true rfl⟩ (fun H locs hP hD hS => ?_)
  obtain ⟨k14, hk14, hf⟩ := jn_some hf
  have w14 : ∀ (t0_14 : Int32), k14 t0_14 = some r → ∀ (H : Heap) (locs : List Loc) (ls : Array Slot), va_P D vwCl (wM cI cZ md mth msz mrn mmy mdf mgu mhs mlv mba mgi mfi mle mst msu mtr mdi mfa mca) H → va_D A (wM cI cZ md mth msz mrn mmy mdf mgu mhs mlv mba mgi mfi mle mst msu mtr mdi mfa mca) → va_S A s.heap H locs → lv_has ls 2 [(0, .ref (md 0)), (1, .int p1)] → W p l e rm_X4_bar s m args below meth c H locs 0 0 Q (F0 m 14 ls [.int t0_14, .ref (md 0)]) := by
    intro t0_14 hf H locs ls hP hD hS hl
    rw [hk14] at hf
    try dsimp only at hf
    obtain ⟨x14, hy14, hf⟩ := jn_some hf
    refine clV_i (As := [.int t0_14]) (rest := []) (wM cI cZ md x14.2 msz mrn mmy mdf mgu mhs mlv mba mgi mfi mle mst msu mtr mdi mfa mca) ⟨hx, hb, hml, hown, hts⟩ (K_X4_goesWell l D cI cZ md H.size mth msz mrn mmy mdf mgu mhs mlv mba mgi mfi mle mst msu mtr mdi mfa mca t0_14 _ hy14.symm) (cwV 1 hts gX4_bar_X4_goesWell rfl rfl rfl (by decide +kernel) ⟨Nat.le_of_ble_eq_true rfl, Nat.le_of_ble_eq_true rfl⟩) hK hP hD hS hA hl.1 [0, 1, 2, 3, 4, 5, 6, 7, 8, 9, 10] (by decide) rfl rfl rfl 4 0 rfl rfl rfl rfl rfl (Nat.le_of_ble_eq_true rfl) dX4_bar_14 ⟨Nat.le_of_ble_eq_true rfl, Nat.le_of_ble_eq_true rfl⟩ (fun H locs hP hD hS => ?_)
    refine lv_if_ne (tgt := 22) hx hb dX4_bar_17 (by decide) (fun c_17 => ?_) (fun c_17 => ?_)
    · have hf := ite_f c_17 hf
      refine lv_aload_n hx hb dX4_bar_22 rfl (lv_at hl 0 rfl) ?_
      refine lv_iload_n hx hb dX4_bar_23 rfl (lv_at hl 1 rfl) ?_
      obtain ⟨x24, hy24, hf⟩ := Option.bind_eq_some_iff.mp hf
      refine clV_v (As := [.int p1]) (rest := []) (wM cI cZ md x14.2 msz mrn mmy mdf mgu mhs mlv x24.1 x24.2 mfi mle mst msu mtr mdi mfa mca) ⟨hx, hb, hml, hown, hts⟩ (K_X4_turn l D cI cZ md H.size x14.2 msz mrn mmy mdf mgu mhs mlv mba mgi mfi mle mst msu mtr mdi mfa mca p1 _ hy24) (cwV 1 hts gX4_bar_X4_turn rfl rfl rfl (by decide +kernel) ⟨Nat.le_of_ble_eq_true rfl, Nat.le_of_ble_eq_true rfl⟩) hK hP hD hS hA hl.1 [0, 1, 2, 3, 4, 5, 6, 7, 8, 9, 10] (by decide) rfl rfl rfl 4 0 rfl rfl rfl rfl rfl (Nat.le_of_ble_eq_true rfl) dX4_bar_24 ⟨Nat.le_of_ble_eq_true rfl, Nat.le_of_ble_eq_true rfl⟩ (fun H locs hP hD hS => ?_)
      refine lv_aload_n hx hb dX4_bar_27 rfl (lv_at hl 0 rfl) ?_
      obtain ⟨x28, hy28, hf⟩ := Option.bind_eq_some_iff.mp hf
      refine clV_v (As := []) (rest := []) (wM cI cZ md x14.2 msz x28.1 mmy mdf mgu mhs mlv x24.1 x24.2 x28.2.1 x28.2.2.1 x28.2.2.2.1 x28.2.2.2.2 mtr mdi mfa mca) ⟨hx, hb, hml, hown, hts⟩ (K_X4_layRuns l D cI cZ md H.size N x14.2 msz mrn mmy mdf mgu mhs mlv x24.1 x24.2 mfi mle mst msu mtr mdi mfa mca _ hy28) (cwV 0 hts gX4_bar_X4_layRuns rfl rfl rfl (by decide +kernel) ⟨Nat.le_of_ble_eq_true rfl, Nat.le_of_ble_eq_true rfl⟩) hK hP hD hS hA hl.1 [0, 1, 2, 3, 4, 5, 6, 7, 8, 9, 10] (by decide) rfl rfl rfl 4 0 rfl rfl rfl rfl rfl (Nat.le_of_ble_eq_true rfl) dX4_bar_28 ⟨Nat.le_of_ble_eq_true rfl, Nat.le_of_ble_eq_true rfl⟩ (fun H locs hP hD hS => ?_)
      refine lv_aload_n hx hb dX4_bar_31 rfl (lv_at hl 0 rfl) ?_
      refine va_get (D := D) (ci := 4) (v := .ref (md 1)) (C := RX4) (T := TX4) (N := 18) hx hb hts hinX4 hown hK.1 hP 0 rfl rfl 2 (by decide) (hts (.fieldLink RX4 13 "GridpuzzleModel" "isBarred" "[Z") (by decide +kernel)) (fun _ h9 => h9) rfl dX4_bar_32 ?_
      refine lv_iload_n hx hb dX4_bar_35 rfl (lv_at hl 1 rfl) ?_
      obtain ⟨hz36, hf⟩ := gd_some hf
      refine va_zald hx hb hK.1 hP 1 1 rfl rfl hz36 dX4_bar_36 ?_
      obtain ⟨hz37, hf⟩ := gd_some hf
      cases hf
      exact hR _ _ _ _ _ _ hz37 rfl rfl hP hD hS dX4_bar_37
    · have hf := ite_t c_17 hf
      refine lv_iconst (v := 0) hx hb dX4_bar_20 (by decide) ?_
      cases hf
      exact hR _ _ _ _ _ _ (by decide) rfl rfl hP hD hS dX4_bar_21
  refine lv_if_eq (tgt := 13) hx hb dX4_bar_6 (by decide) (fun c_6 => ?_) (fun c_6 => ?_)
  · have hf := ite_t c_6 hf
    refine lv_iconst (v := 1) hx hb dX4_bar_13 (by decide) ?_
    exact w14 1 hf _ _ _ hP hD hS (lv_sub hl [0, 1] rfl)
  · have hf := ite_f c_6 hf
    refine lv_iconst (v := 0) hx hb dX4_bar_9 (by decide) ?_
    refine lv_goto (tgt := 14) hx hb dX4_bar_10 (by decide) ?_
    exact w14 0 hf _ _ _ hP hD hS (lv_sub hl [0, 1] rfl)
def rm_X4_countOpen : Room := { frames := 3, cells := 0, slots := 0, locals := 64 }
set_option maxRecDepth 100000 in
set_option maxHeartbeats 8000000 in
theorem K_X4_countOpen (l : Launch) (D : va_G) (cI cZ : ClassId) (md : Nat → Nat) (sz : Nat) (N : Nat) (mth msz mrn mmy mdf mgu mhs mlv : Int32) (mba mgi mfi mle mst msu mtr mdi mfa mca : Nat → Int32) (r : (Int32)) (hf : f_X4_countOpen N msz mba = some r) : Met l yX4_countOpen wsX4_countOpen rm_X4_countOpen (PC D cI cZ sz [.ref (md 0)] (wM cI cZ md mth msz mrn mmy mdf mgu mhs mlv mba mgi mfi mle mst msu mtr mdi mfa mca)) (QI D cI cZ sz (wM cI cZ md mth msz mrn mmy mdf mgu mhs mlv mba mgi mfi mle mst msu mtr mdi mfa mca) r (wM cI cZ md mth msz mrn mmy mdf mgu mhs mlv mba mgi mfi mle mst msu mtr mdi mfa mca)) 0 0 (va_A (wM cI cZ md mth msz mrn mmy mdf mgu mhs mlv mba mgi mfi mle mst msu mtr mdi mfa mca) sz) := by
  refine mk_i (cc := cX4_countOpen) (maxL := 3) (lv0 := [(0, .ref (md 0))]) (by decide) rfl (Nat.le_of_ble_eq_true rfl) rfl ?_
  intro p e s m args below meth c ls A Q H hx hb hml hown hts hK hP hD hA hS hl hR
  rw [f_X4_countOpen] at hf
  refine lv_iconst (v := 0) hx hb dX4_countOpen_0 (by decide) ?_
  refine lv_istore_n (lv' := [(1, .int 0), (0, .ref (md 0))]) hx hb dX4_countOpen_1 rfl hl (by decide) rfl (fun ls hl => ?_)
  refine lv_iconst (v := 0) hx hb dX4_countOpen_2 (by decide) ?_
  refine lv_istore_n (lv' := [(2, .int 0), (1, .int 0), (0, .ref (md 0))]) hx hb dX4_countOpen_3 rfl hl (by decide) rfl (fun ls hl => ?_)
  have l4 : ∀ (nn : Nat) (v1_4 : Int32) (v2_4 : Int32), f_X4_countOpen_L4 msz mba nn v1_4 v2_4 = some r → ∀ (H : Heap) (locs : List Loc) (ls : Array Slot), va_P D vwCl (wM cI cZ md mth msz mrn mmy mdf mgu mhs mlv mba mgi mfi mle mst msu mtr mdi mfa mca) H → va_D A (wM cI cZ md mth msz mrn mmy mdf mgu mhs mlv mba mgi mfi mle mst msu mtr mdi mfa mca) → va_S A s.heap H locs → lv_has ls 3 [(0, .ref (md 0)), (1, .int v1_4), (2, .int v2_4)] → W p l e rm_X4_countOpen s m args below meth c H locs 0 0 Q (F0 m 4 ls []) := by
    intro nn
    induction nn with
    | zero => intro _ _ hf; exact nomatch (show (none : Option _) = some r from hf)
    | succ n4 ih4 =>
      intro v1_4 v2_4 hf H locs ls hP hD hS hl
      rw [f_X4_countOpen_L4.eq_2] at hf
      refine lv_iload_n hx hb dX4_countOpen_4 rfl (lv_at hl 2 rfl) ?_
      refine lv_bipush (v := 16) hx hb dX4_countOpen_5 (by decide) ?_
      refine lv_icmp_ge (tgt := 32) hx hb dX4_countOpen_7 (by decide) (fun c_7 => ?_) (fun c_7 => ?_)
      · have hf := ite_t c_7 hf
        refine lv_iload_n hx hb dX4_countOpen_32 rfl (lv_at hl 1 rfl) ?_
        cases hf
        exact hR _ _ _ _ _ _ rfl rfl hP hD hS dX4_countOpen_33
      · have hf := ite_f c_7 hf
        refine lv_iload_n hx hb dX4_countOpen_10 rfl (lv_at hl 1 rfl) ?_
        refine lv_aload_n hx hb dX4_countOpen_11 rfl (lv_at hl 0 rfl) ?_
        refine lv_iload_n hx hb dX4_countOpen_12 rfl (lv_at hl 2 rfl) ?_
        obtain ⟨x13, hy13, hf⟩ := Option.bind_eq_some_iff.mp hf
        refine clV_i (As := [.int v2_4]) (rest := [.int v1_4]) (wM cI cZ md mth msz mrn mmy mdf mgu mhs mlv mba mgi mfi mle mst msu mtr mdi mfa mca) ⟨hx, hb, hml, hown, hts⟩ (K_X4_isOpen l D cI cZ md H.size mth msz mrn mmy mdf mgu mhs mlv mba mgi mfi mle mst msu mtr mdi mfa mca v2_4 _ hy13) (cwV 1 hts gX4_countOpen_X4_isOpen rfl rfl rfl (by decide +kernel) ⟨Nat.le_of_ble_eq_true rfl, Nat.le_of_ble_eq_true rfl⟩) hK hP hD hS hA hl.1 [0, 1, 2, 3, 4, 5, 6, 7, 8, 9, 10] (by decide) rfl rfl rfl 4 0 rfl rfl rfl rfl rfl (Nat.le_of_ble_eq_true rfl) dX4_countOpen_13 ⟨Nat.le_of_ble_eq_true rfl, Nat.le_of_ble_eq_true rfl⟩ (fun H locs hP hD hS => ?_)
        obtain ⟨k24, hk24, hf⟩ := jn_some hf
        have w24 : ∀ (t0_24 : Int32), k24 t0_24 = some r → ∀ (H : Heap) (locs : List Loc) (ls : Array Slot), va_P D vwCl (wM cI cZ md mth msz mrn mmy mdf mgu mhs mlv mba mgi mfi mle mst msu mtr mdi mfa mca) H → va_D A (wM cI cZ md mth msz mrn mmy mdf mgu mhs mlv mba mgi mfi mle mst msu mtr mdi mfa mca) → va_S A s.heap H locs → lv_has ls 3 [(0, .ref (md 0)), (2, .int v2_4)] → W p l e rm_X4_countOpen s m args below meth c H locs 0 0 Q (F0 m 24 ls [.int t0_24, .int v1_4]) := by
          intro t0_24 hf H locs ls hP hD hS hl
          rw [hk24] at hf
          try dsimp only at hf
          refine lv_iadd hx hb dX4_countOpen_24 ?_
          refine lv_istore_n (lv' := [(1, .int (v1_4 + t0_24)), (0, .ref (md 0)), (2, .int v2_4)]) hx hb dX4_countOpen_25 rfl hl (by decide) rfl (fun ls hl => ?_)
          refine lv_iinc (v := (v2_4 + 1)) (lv' := [(2, .int (v2_4 + 1)), (1, .int (v1_4 + t0_24)), (0, .ref (md 0))]) hx hb dX4_countOpen_26 hl (k := 2) rfl rfl (by decide) rfl (fun ls hl => ?_)
          refine lv_goto (tgt := 4) hx hb dX4_countOpen_29 (by decide) ?_
          exact ih4 (v1_4 + t0_24) (v2_4 + 1) hf _ _ _ hP hD hS (lv_sub hl [2, 1, 0] rfl)
        refine lv_if_eq (tgt := 23) hx hb dX4_countOpen_16 (by decide) (fun c_16 => ?_) (fun c_16 => ?_)
        · have hf := ite_t c_16 hf
          refine lv_iconst (v := 0) hx hb dX4_countOpen_23 (by decide) ?_
          exact w24 0 hf _ _ _ hP hD hS (lv_sub hl [0, 2] rfl)
        · have hf := ite_f c_16 hf
          refine lv_iconst (v := 1) hx hb dX4_countOpen_19 (by decide) ?_
          refine lv_goto (tgt := 24) hx hb dX4_countOpen_20 (by decide) ?_
          exact w24 1 hf _ _ _ hP hD hS (lv_sub hl [0, 2] rfl)
  exact l4 N 0 0 hf _ _ _ hP hD hS (lv_sub hl [2, 1, 0] rfl)
def rm_X4_barBoth : Room := { frames := 4, cells := 0, slots := 0, locals := 86 }
set_option maxRecDepth 100000 in
set_option maxHeartbeats 8000000 in
theorem K_X4_barBoth (l : Launch) (D : va_G) (cI cZ : ClassId) (md : Nat → Nat) (sz : Nat) (N : Nat) (mth msz mrn mmy mdf mgu mhs mlv : Int32) (mba mgi mfi mle mst msu mtr mdi mfa mca : Nat → Int32) (p1 : Int32) (r : (Int32 × Int32 × Int32 × (Nat → Int32) × (Nat → Int32) × (Nat → Int32) × (Nat → Int32) × (Nat → Int32) × (Nat → Int32))) (hf : f_X4_barBoth N mth msz mrn mba mgi mfi mle mst msu p1 = some r) : Met l yX4_barBoth wsX4_barBoth rm_X4_barBoth (PC D cI cZ sz [.ref (md 0), .int p1] (wM cI cZ md mth msz mrn mmy mdf mgu mhs mlv mba mgi mfi mle mst msu mtr mdi mfa mca)) (QI D cI cZ sz (wM cI cZ md mth msz mrn mmy mdf mgu mhs mlv mba mgi mfi mle mst msu mtr mdi mfa mca) r.1 (wM cI cZ md r.2.1 msz r.2.2.1 mmy mdf mgu mhs mlv r.2.2.2.1 r.2.2.2.2.1 r.2.2.2.2.2.1 r.2.2.2.2.2.2.1 r.2.2.2.2.2.2.2.1 r.2.2.2.2.2.2.2.2 mtr mdi mfa mca)) 0 0 (va_A (wM cI cZ md mth msz mrn mmy mdf mgu mhs mlv mba mgi mfi mle mst msu mtr mdi mfa mca) sz) := by
  refine mk_i (cc := cX4_barBoth) (maxL := 3) (lv0 := [(0, .ref (md 0)), (1, .int p1)]) (by decide) rfl (Nat.le_of_ble_eq_true rfl) rfl ?_
  intro p e s m args below meth c ls A Q H hx hb hml hown hts hK hP hD hA hS hl hR
  have hinX4 : ∀ w ∈ wsX40, w ∈ wsX4_barBoth := by decide +kernel
  rw [f_X4_barBoth] at hf
  refine lv_aload_n hx hb dX4_barBoth_0 rfl (lv_at hl 0 rfl) ?_
  refine lv_aload_n hx hb dX4_barBoth_1 rfl (lv_at hl 0 rfl) ?_
  refine lv_iload_n hx hb dX4_barBoth_2 rfl (lv_at hl 1 rfl) ?_
  refine clV_i (As := [.int p1]) (rest := [.ref (md 0)]) (wM cI cZ md mth msz mrn mmy mdf mgu mhs mlv mba mgi mfi mle mst msu mtr mdi mfa mca) ⟨hx, hb, hml, hown, hts⟩ (K_X4_isCell l D cI cZ md H.size mth msz mrn mmy mdf mgu mhs mlv mba mgi mfi mle mst msu mtr mdi mfa mca p1 _ rfl) (cwV 1 hts gX4_barBoth_X4_isCell rfl rfl rfl (by decide +kernel) ⟨Nat.le_of_ble_eq_true rfl, Nat.le_of_ble_eq_true rfl⟩) hK hP hD hS hA hl.1 [0, 1, 2, 3, 4, 5, 6, 7, 8, 9, 10] (by decide) rfl rfl rfl 4 0 rfl rfl rfl rfl rfl (Nat.le_of_ble_eq_true rfl) dX4_barBoth_3 ⟨Nat.le_of_ble_eq_true rfl, Nat.le_of_ble_eq_true rfl⟩ (fun H locs hP hD hS => ?_)
  obtain ⟨k14, hk14, hf⟩ := jn_some hf
  have w14 : ∀ (t0_14 : Int32), k14 t0_14 = some r → ∀ (H : Heap) (locs : List Loc) (ls : Array Slot), va_P D vwCl (wM cI cZ md mth msz mrn mmy mdf mgu mhs mlv mba mgi mfi mle mst msu mtr mdi mfa mca) H → va_D A (wM cI cZ md mth msz mrn mmy mdf mgu mhs mlv mba mgi mfi mle mst msu mtr mdi mfa mca) → va_S A s.heap H locs → lv_has ls 3 [(0, .ref (md 0)), (1, .int p1)] → W p l e rm_X4_barBoth s m args below meth c H locs 0 0 Q (F0 m 14 ls [.int t0_14, .ref (md 0)]) := by
    intro t0_14 hf H locs ls hP hD hS hl
    rw [hk14] at hf
    try dsimp only at hf
    obtain ⟨x14, hy14, hf⟩ := jn_some hf
    refine clV_i (As := [.int t0_14]) (rest := []) (wM cI cZ md x14.2 msz mrn mmy mdf mgu mhs mlv mba mgi mfi mle mst msu mtr mdi mfa mca) ⟨hx, hb, hml, hown, hts⟩ (K_X4_goesWell l D cI cZ md H.size mth msz mrn mmy mdf mgu mhs mlv mba mgi mfi mle mst msu mtr mdi mfa mca t0_14 _ hy14.symm) (cwV 1 hts gX4_barBoth_X4_goesWell rfl rfl rfl (by decide +kernel) ⟨Nat.le_of_ble_eq_true rfl, Nat.le_of_ble_eq_true rfl⟩) hK hP hD hS hA hl.1 [0, 1, 2, 3, 4, 5, 6, 7, 8, 9, 10] (by decide) rfl rfl rfl 4 0 rfl rfl rfl rfl rfl (Nat.le_of_ble_eq_true rfl) dX4_barBoth_14 ⟨Nat.le_of_ble_eq_true rfl, Nat.le_of_ble_eq_true rfl⟩ (fun H locs hP hD hS => ?_)
    refine lv_if_ne (tgt := 22) hx hb dX4_barBoth_17 (by decide) (fun c_17 => ?_) (fun c_17 => ?_)
    · have hf := ite_f c_17 hf
      refine lv_iconst (v := 4) hx hb dX4_barBoth_22 (by decide) ?_
      refine lv_aload_n hx hb dX4_barBoth_23 rfl (lv_at hl 0 rfl) ?_
      refine va_get (D := D) (ci := 4) (v := .int msz) (C := RX4) (T := TX4) (N := 18) hx hb hts hinX4 hown hK.1 hP 0 rfl rfl 1 (by decide) (hts (.fieldLink RX4 7 "GridpuzzleModel" "size" "I") (by decide +kernel)) (fun _ h9 => h9) rfl dX4_barBoth_24 ?_
      refine lv_iconst (v := 1) hx hb dX4_barBoth_27 (by decide) ?_
      refine lv_isub hx hb dX4_barBoth_28 ?_
      refine lv_iload_n hx hb dX4_barBoth_29 rfl (lv_at hl 1 rfl) ?_
      refine lv_iconst (v := 4) hx hb dX4_barBoth_30 (by decide) ?_
      refine lv_idiv hx hb dX4_barBoth_31 (by decide) ?_
      refine lv_isub hx hb dX4_barBoth_32 ?_
      refine lv_imul hx hb dX4_barBoth_33 ?_
      refine lv_aload_n hx hb dX4_barBoth_34 rfl (lv_at hl 0 rfl) ?_
      refine va_get (D := D) (ci := 4) (v := .int msz) (C := RX4) (T := TX4) (N := 18) hx hb hts hinX4 hown hK.1 hP 0 rfl rfl 1 (by decide) (hts (.fieldLink RX4 7 "GridpuzzleModel" "size" "I") (by decide +kernel)) (fun _ h9 => h9) rfl dX4_barBoth_35 ?_
      refine lv_iadd hx hb dX4_barBoth_38 ?_
      refine lv_iconst (v := 1) hx hb dX4_barBoth_39 (by decide) ?_
      refine lv_isub hx hb dX4_barBoth_40 ?_
      refine lv_iload_n hx hb dX4_barBoth_41 rfl (lv_at hl 1 rfl) ?_
      refine lv_iconst (v := 4) hx hb dX4_barBoth_42 (by decide) ?_
      refine lv_irem hx hb dX4_barBoth_43 (by decide) ?_
      refine lv_isub hx hb dX4_barBoth_44 ?_
      refine lv_istore_n (lv' := [(2, .int ((((4 * ((msz - 1) - (p1 / 4))) + msz) - 1) - (p1 - p1 / 4 * 4))), (0, .ref (md 0)), (1, .int p1)]) hx hb dX4_barBoth_45 rfl hl (by decide) rfl (fun ls hl => ?_)
      refine lv_aload_n hx hb dX4_barBoth_46 rfl (lv_at hl 1 rfl) ?_
      refine lv_iload_n hx hb dX4_barBoth_47 rfl (lv_at hl 2 rfl) ?_
      obtain ⟨x48, hy48, hf⟩ := Option.bind_eq_some_iff.mp hf
      refine clV_v (As := [.int p1]) (rest := []) (wM cI cZ md x14.2 msz mrn mmy mdf mgu mhs mlv x48.1 x48.2 mfi mle mst msu mtr mdi mfa mca) ⟨hx, hb, hml, hown, hts⟩ (K_X4_turn l D cI cZ md H.size x14.2 msz mrn mmy mdf mgu mhs mlv mba mgi mfi mle mst msu mtr mdi mfa mca p1 _ hy48) (cwV 1 hts gX4_barBoth_X4_turn rfl rfl rfl (by decide +kernel) ⟨Nat.le_of_ble_eq_true rfl, Nat.le_of_ble_eq_true rfl⟩) hK hP hD hS hA hl.1 [0, 1, 2, 3, 4, 5, 6, 7, 8, 9, 10] (by decide) rfl rfl rfl 4 0 rfl rfl rfl rfl rfl (Nat.le_of_ble_eq_true rfl) dX4_barBoth_48 ⟨Nat.le_of_ble_eq_true rfl, Nat.le_of_ble_eq_true rfl⟩ (fun H locs hP hD hS => ?_)
      refine lv_iload_n hx hb dX4_barBoth_51 rfl (lv_at hl 0 rfl) ?_
      refine lv_iload_n hx hb dX4_barBoth_52 rfl (lv_at hl 2 rfl) ?_
      obtain ⟨k61, hk61, hf⟩ := jn_some hf
      have w61 : ∀ (mba_61 : Nat → Int32) (mgi_61 : Nat → Int32), k61 mba_61 mgi_61 = some r → ∀ (H : Heap) (locs : List Loc) (ls : Array Slot), va_P D vwCl (wM cI cZ md x14.2 msz mrn mmy mdf mgu mhs mlv mba_61 mgi_61 mfi mle mst msu mtr mdi mfa mca) H → va_D A (wM cI cZ md x14.2 msz mrn mmy mdf mgu mhs mlv mba_61 mgi_61 mfi mle mst msu mtr mdi mfa mca) → va_S A s.heap H locs → lv_has ls 3 [(0, .ref (md 0))] → W p l e rm_X4_barBoth s m args below meth c H locs 0 0 Q (F0 m 61 ls []) := by
        intro mba_61 mgi_61 hf H locs ls hP hD hS hl
        rw [hk61] at hf
        try dsimp only at hf
        refine lv_aload_n hx hb dX4_barBoth_61 rfl (lv_at hl 0 rfl) ?_
        obtain ⟨x62, hy62, hf⟩ := Option.bind_eq_some_iff.mp hf
        refine clV_v (As := []) (rest := []) (wM cI cZ md x14.2 msz x62.1 mmy mdf mgu mhs mlv mba_61 mgi_61 x62.2.1 x62.2.2.1 x62.2.2.2.1 x62.2.2.2.2 mtr mdi mfa mca) ⟨hx, hb, hml, hown, hts⟩ (K_X4_layRuns l D cI cZ md H.size N x14.2 msz mrn mmy mdf mgu mhs mlv mba_61 mgi_61 mfi mle mst msu mtr mdi mfa mca _ hy62) (cwV 0 hts gX4_barBoth_X4_layRuns rfl rfl rfl (by decide +kernel) ⟨Nat.le_of_ble_eq_true rfl, Nat.le_of_ble_eq_true rfl⟩) hK hP hD hS hA hl.1 [0, 1, 2, 3, 4, 5, 6, 7, 8, 9, 10] (by decide) rfl rfl rfl 4 0 rfl rfl rfl rfl rfl (Nat.le_of_ble_eq_true rfl) dX4_barBoth_62 ⟨Nat.le_of_ble_eq_true rfl, Nat.le_of_ble_eq_true rfl⟩ (fun H locs hP hD hS => ?_)
        refine lv_aload_n hx hb dX4_barBoth_65 rfl (lv_at hl 0 rfl) ?_
        refine va_get (D := D) (ci := 4) (v := .int msz) (C := RX4) (T := TX4) (N := 18) hx hb hts hinX4 hown hK.1 hP 0 rfl rfl 1 (by decide) (hts (.fieldLink RX4 7 "GridpuzzleModel" "size" "I") (by decide +kernel)) (fun _ h9 => h9) rfl dX4_barBoth_66 ?_
        refine lv_aload_n hx hb dX4_barBoth_69 rfl (lv_at hl 0 rfl) ?_
        refine va_get (D := D) (ci := 4) (v := .int msz) (C := RX4) (T := TX4) (N := 18) hx hb hts hinX4 hown hK.1 hP 0 rfl rfl 1 (by decide) (hts (.fieldLink RX4 7 "GridpuzzleModel" "size" "I") (by decide +kernel)) (fun _ h9 => h9) rfl dX4_barBoth_70 ?_
        refine lv_imul hx hb dX4_barBoth_73 ?_
        refine lv_aload_n hx hb dX4_barBoth_74 rfl (lv_at hl 0 rfl) ?_
        obtain ⟨x75, hy75, hf⟩ := Option.bind_eq_some_iff.mp hf
        refine clV_i (As := []) (rest := [.int (msz * msz)]) (wM cI cZ md x14.2 msz x62.1 mmy mdf mgu mhs mlv mba_61 mgi_61 x62.2.1 x62.2.2.1 x62.2.2.2.1 x62.2.2.2.2 mtr mdi mfa mca) ⟨hx, hb, hml, hown, hts⟩ (K_X4_countOpen l D cI cZ md H.size N x14.2 msz x62.1 mmy mdf mgu mhs mlv mba_61 mgi_61 x62.2.1 x62.2.2.1 x62.2.2.2.1 x62.2.2.2.2 mtr mdi mfa mca _ hy75) (cwV 0 hts gX4_barBoth_X4_countOpen rfl rfl rfl (by decide +kernel) ⟨Nat.le_of_ble_eq_true rfl, Nat.le_of_ble_eq_true rfl⟩) hK hP hD hS hA hl.1 [0, 1, 2, 3, 4, 5, 6, 7, 8, 9, 10] (by decide) rfl rfl rfl 4 0 rfl rfl rfl rfl rfl (Nat.le_of_ble_eq_true rfl) dX4_barBoth_75 ⟨Nat.le_of_ble_eq_true rfl, Nat.le_of_ble_eq_true rfl⟩ (fun H locs hP hD hS => ?_)
        refine lv_isub hx hb dX4_barBoth_78 ?_
        cases hf
        exact hR _ _ _ _ _ _ rfl rfl hP hD hS dX4_barBoth_79
      refine lv_icmp_eq (tgt := 61) hx hb dX4_barBoth_53 (by decide) (fun c_53 => ?_) (fun c_53 => ?_)
      · have hf := ite_t c_53 hf
        exact w61 x48.1 x48.2 hf _ _ _ hP hD hS (lv_sub hl [1] rfl)
      · have hf := ite_f c_53 hf
        refine lv_aload_n hx hb dX4_barBoth_56 rfl (lv_at hl 1 rfl) ?_
        refine lv_iload_n hx hb dX4_barBoth_57 rfl (lv_at hl 0 rfl) ?_
        obtain ⟨x58, hy58, hf⟩ := Option.bind_eq_some_iff.mp hf
        refine clV_v (As := [.int ((((4 * ((msz - 1) - (p1 / 4))) + msz) - 1) - (p1 - p1 / 4 * 4))]) (rest := []) (wM cI cZ md x14.2 msz mrn mmy mdf mgu mhs mlv x58.1 x58.2 mfi mle mst msu mtr mdi mfa mca) ⟨hx, hb, hml, hown, hts⟩ (K_X4_turn l D cI cZ md H.size x14.2 msz mrn mmy mdf mgu mhs mlv x48.1 x48.2 mfi mle mst msu mtr mdi mfa mca ((((4 * ((msz - 1) - (p1 / 4))) + msz) - 1) - (p1 - p1 / 4 * 4)) _ hy58) (cwV 1 hts gX4_barBoth_X4_turn rfl rfl rfl (by decide +kernel) ⟨Nat.le_of_ble_eq_true rfl, Nat.le_of_ble_eq_true rfl⟩) hK hP hD hS hA hl.1 [0, 1, 2, 3, 4, 5, 6, 7, 8, 9, 10] (by decide) rfl rfl rfl 4 0 rfl rfl rfl rfl rfl (Nat.le_of_ble_eq_true rfl) dX4_barBoth_58 ⟨Nat.le_of_ble_eq_true rfl, Nat.le_of_ble_eq_true rfl⟩ (fun H locs hP hD hS => ?_)
        exact w61 x58.1 x58.2 hf _ _ _ hP hD hS (lv_sub hl [1] rfl)
    · have hf := ite_t c_17 hf
      refine lv_iconst (v := 0) hx hb dX4_barBoth_20 (by decide) ?_
      cases hf
      exact hR _ _ _ _ _ _ rfl rfl hP hD hS dX4_barBoth_21
  refine lv_if_eq (tgt := 13) hx hb dX4_barBoth_6 (by decide) (fun c_6 => ?_) (fun c_6 => ?_)
  · have hf := ite_t c_6 hf
    refine lv_iconst (v := 1) hx hb dX4_barBoth_13 (by decide) ?_
    exact w14 1 hf _ _ _ hP hD hS (lv_sub hl [0, 1] rfl)
  · have hf := ite_f c_6 hf
    refine lv_iconst (v := 0) hx hb dX4_barBoth_9 (by decide) ?_
    refine lv_goto (tgt := 14) hx hb dX4_barBoth_10 (by decide) ?_
    exact w14 0 hf _ _ _ hP hD hS (lv_sub hl [0, 1] rfl)
def rm_X4_give : Room := { frames := 2, cells := 0, slots := 0, locals := 43 }
set_option maxRecDepth 100000 in
set_option maxHeartbeats 8000000 in
theorem K_X4_give (l : Launch) (D : va_G) (cI cZ : ClassId) (md : Nat → Nat) (sz : Nat) (mth msz mrn mmy mdf mgu mhs mlv : Int32) (mba mgi mfi mle mst msu mtr mdi mfa mca : Nat → Int32) (p1 : Int32) (p2 : Int32) (r : (Int32 × Int32 × (Nat → Int32))) (hf : f_X4_give mth msz mba mgi p1 p2 = some r) : Met l yX4_give wsX4_give rm_X4_give (PC D cI cZ sz [.ref (md 0), .int p1, .int p2] (wM cI cZ md mth msz mrn mmy mdf mgu mhs mlv mba mgi mfi mle mst msu mtr mdi mfa mca)) (QI D cI cZ sz (wM cI cZ md mth msz mrn mmy mdf mgu mhs mlv mba mgi mfi mle mst msu mtr mdi mfa mca) r.1 (wM cI cZ md r.2.1 msz mrn mmy mdf mgu mhs mlv mba r.2.2 mfi mle mst msu mtr mdi mfa mca)) 0 0 (va_A (wM cI cZ md mth msz mrn mmy mdf mgu mhs mlv mba mgi mfi mle mst msu mtr mdi mfa mca) sz) := by
  refine mk_i (cc := cX4_give) (maxL := 5) (lv0 := [(0, .ref (md 0)), (1, .int p1), (2, .int p2)]) (by decide) rfl (Nat.le_of_ble_eq_true rfl) rfl ?_
  intro p e s m args below meth c ls A Q H hx hb hml hown hts hK hP hD hA hS hl hR
  have hinX4 : ∀ w ∈ wsX40, w ∈ wsX4_give := by decide +kernel
  rw [f_X4_give] at hf
  refine lv_aload_n hx hb dX4_give_0 rfl (lv_at hl 0 rfl) ?_
  refine lv_iload_n hx hb dX4_give_1 rfl (lv_at hl 1 rfl) ?_
  refine clV_i (As := [.int p1]) (rest := []) (wM cI cZ md mth msz mrn mmy mdf mgu mhs mlv mba mgi mfi mle mst msu mtr mdi mfa mca) ⟨hx, hb, hml, hown, hts⟩ (K_X4_isCell l D cI cZ md H.size mth msz mrn mmy mdf mgu mhs mlv mba mgi mfi mle mst msu mtr mdi mfa mca p1 _ rfl) (cwV 1 hts gX4_give_X4_isCell rfl rfl rfl (by decide +kernel) ⟨Nat.le_of_ble_eq_true rfl, Nat.le_of_ble_eq_true rfl⟩) hK hP hD hS hA hl.1 [0, 1, 2, 3, 4, 5, 6, 7, 8, 9, 10] (by decide) rfl rfl rfl 4 0 rfl rfl rfl rfl rfl (Nat.le_of_ble_eq_true rfl) dX4_give_2 ⟨Nat.le_of_ble_eq_true rfl, Nat.le_of_ble_eq_true rfl⟩ (fun H locs hP hD hS => ?_)
  refine lv_istore_n (lv' := [(3, .int (f_X4_isCell msz p1)), (0, .ref (md 0)), (1, .int p1), (2, .int p2)]) hx hb dX4_give_5 rfl hl (by decide) rfl (fun ls hl => ?_)
  refine lv_aload_n hx hb dX4_give_6 rfl (lv_at hl 1 rfl) ?_
  refine lv_iload_n hx hb dX4_give_7 rfl (lv_at hl 0 rfl) ?_
  obtain ⟨k43, hk43, hf⟩ := jn_some hf
  have w43 : ∀ (t0_43 : Int32), k43 t0_43 = some r → ∀ (H : Heap) (locs : List Loc) (ls : Array Slot), va_P D vwCl (wM cI cZ md mth msz mrn mmy mdf mgu mhs mlv mba mgi mfi mle mst msu mtr mdi mfa mca) H → va_D A (wM cI cZ md mth msz mrn mmy mdf mgu mhs mlv mba mgi mfi mle mst msu mtr mdi mfa mca) → va_S A s.heap H locs → lv_has ls 5 [(0, .ref (md 0)), (1, .int p1), (2, .int p2)] → W p l e rm_X4_give s m args below meth c H locs 0 0 Q (F0 m 43 ls [.int t0_43, .ref (md 0)]) := by
    intro t0_43 hf H locs ls hP hD hS hl
    rw [hk43] at hf
    try dsimp only at hf
    obtain ⟨x43, hy43, hf⟩ := jn_some hf
    refine clV_i (As := [.int t0_43]) (rest := []) (wM cI cZ md x43.2 msz mrn mmy mdf mgu mhs mlv mba mgi mfi mle mst msu mtr mdi mfa mca) ⟨hx, hb, hml, hown, hts⟩ (K_X4_goesWell l D cI cZ md H.size mth msz mrn mmy mdf mgu mhs mlv mba mgi mfi mle mst msu mtr mdi mfa mca t0_43 _ hy43.symm) (cwV 1 hts gX4_give_X4_goesWell rfl rfl rfl (by decide +kernel) ⟨Nat.le_of_ble_eq_true rfl, Nat.le_of_ble_eq_true rfl⟩) hK hP hD hS hA hl.1 [0, 1, 2, 3, 4, 5, 6, 7, 8, 9, 10] (by decide) rfl rfl rfl 4 0 rfl rfl rfl rfl rfl (Nat.le_of_ble_eq_true rfl) dX4_give_43 ⟨Nat.le_of_ble_eq_true rfl, Nat.le_of_ble_eq_true rfl⟩ (fun H locs hP hD hS => ?_)
    refine lv_if_ne (tgt := 51) hx hb dX4_give_46 (by decide) (fun c_46 => ?_) (fun c_46 => ?_)
    · have hf := ite_f c_46 hf
      refine lv_aload_n hx hb dX4_give_51 rfl (lv_at hl 0 rfl) ?_
      refine va_get (D := D) (ci := 4) (v := .ref (md 2)) (C := RX4) (T := TX4) (N := 18) hx hb hts hinX4 hown hK.1 hP 0 rfl rfl 3 (by decide) (hts (.fieldLink RX4 17 "GridpuzzleModel" "given" "[I") (by decide +kernel)) (fun _ h9 => h9) rfl dX4_give_52 ?_
      refine lv_iload_n hx hb dX4_give_55 rfl (lv_at hl 1 rfl) ?_
      obtain ⟨hz56, hf⟩ := gd_some hf
      refine va_iald hx hb hK.1 hP 2 0 rfl rfl hz56 dX4_give_56 ?_
      refine lv_istore (lv' := [(4, .int (mgi ((p1 : Int32)).toNatClampNeg)), (0, .ref (md 0)), (1, .int p1), (2, .int p2)]) hx hb dX4_give_57 hl (by decide) rfl (fun ls hl => ?_)
      refine lv_aload_n hx hb dX4_give_59 rfl (lv_at hl 1 rfl) ?_
      refine va_get (D := D) (ci := 4) (v := .ref (md 2)) (C := RX4) (T := TX4) (N := 18) hx hb hts hinX4 hown hK.1 hP 0 rfl rfl 3 (by decide) (hts (.fieldLink RX4 17 "GridpuzzleModel" "given" "[I") (by decide +kernel)) (fun _ h9 => h9) rfl dX4_give_60 ?_
      refine lv_iload_n hx hb dX4_give_63 rfl (lv_at hl 2 rfl) ?_
      refine lv_iload_n hx hb dX4_give_64 rfl (lv_at hl 3 rfl) ?_
      obtain ⟨hz65, hf⟩ := gd_some hf
      refine va_iast hx hb hK.1 hP hD hS 2 0 rfl rfl hz65 dX4_give_65 (fun H locs hP hD hS => ?_)
      have hP : va_P D vwCl (wM cI cZ md x43.2 msz mrn mmy mdf mgu mhs mlv mba (upd mgi ((p1 : Int32)).toNatClampNeg p2) mfi mle mst msu mtr mdi mfa mca) H := hP
      have hD : va_D A (wM cI cZ md x43.2 msz mrn mmy mdf mgu mhs mlv mba (upd mgi ((p1 : Int32)).toNatClampNeg p2) mfi mle mst msu mtr mdi mfa mca) := hD
      refine lv_iload hx hb dX4_give_66 (lv_at hl 0 rfl) ?_
      cases hf
      exact hR _ _ _ _ _ _ rfl rfl hP hD hS dX4_give_68
    · have hf := ite_t c_46 hf
      refine lv_iconst (v := 0) hx hb dX4_give_49 (by decide) ?_
      cases hf
      exact hR _ _ _ _ _ _ rfl rfl hP hD hS dX4_give_50
  refine lv_if_ne (tgt := 15) hx hb dX4_give_8 (by decide) (fun c_8 => ?_) (fun c_8 => ?_)
  · have hf := ite_f c_8 hf
    refine lv_iload_n hx hb dX4_give_15 rfl (lv_at hl 3 rfl) ?_
    refine lv_iconst (v := 0) hx hb dX4_give_16 (by decide) ?_
    refine lv_bipush (v := 9) hx hb dX4_give_17 (by decide) ?_
    refine clS_i (As := [.int p2, .int 0, .int 9]) (rest := [.ref (md 0)]) (wM cI cZ md mth msz mrn mmy mdf mgu mhs mlv mba mgi mfi mle mst msu mtr mdi mfa mca) ⟨hx, hb, hml, hown, hts⟩ (K_X4_in l D cI cZ H.size  p2 0 9 _ rfl) (va_cwS 3 hts gX4_give_X4_in rfl rfl rfl (by decide +kernel) ⟨Nat.le_of_ble_eq_true rfl, Nat.le_of_ble_eq_true rfl⟩) hK hP hD hS hA hl.1 [] (by decide) rfl rfl rfl rfl rfl (Nat.le_of_ble_eq_true rfl) dX4_give_19 ⟨Nat.le_of_ble_eq_true rfl, Nat.le_of_ble_eq_true rfl⟩ (fun H locs hP hD hS => ?_)
    refine lv_if_ne (tgt := 29) hx hb dX4_give_22 (by decide) (fun c_22 => ?_) (fun c_22 => ?_)
    · have hf := ite_f c_22 hf
      refine lv_aload_n hx hb dX4_give_29 rfl (lv_at hl 1 rfl) ?_
      refine va_get (D := D) (ci := 4) (v := .ref (md 1)) (C := RX4) (T := TX4) (N := 18) hx hb hts hinX4 hown hK.1 hP 0 rfl rfl 2 (by decide) (hts (.fieldLink RX4 13 "GridpuzzleModel" "isBarred" "[Z") (by decide +kernel)) (fun _ h9 => h9) rfl dX4_give_30 ?_
      refine lv_iload_n hx hb dX4_give_33 rfl (lv_at hl 2 rfl) ?_
      obtain ⟨hz34, hf⟩ := gd_some hf
      refine va_zald hx hb hK.1 hP 1 1 rfl rfl hz34 dX4_give_34 ?_
      refine lv_if_eq (tgt := 42) hx hb dX4_give_35 (by decide) (fun c_35 => ?_) (fun c_35 => ?_)
      · have hf := ite_t c_35 hf
        refine lv_iconst (v := 0) hx hb dX4_give_42 (by decide) ?_
        exact w43 0 hf _ _ _ hP hD hS (lv_sub hl [1, 2, 3] rfl)
      · have hf := ite_f c_35 hf
        refine lv_iconst (v := 3) hx hb dX4_give_38 (by decide) ?_
        refine lv_goto (tgt := 43) hx hb dX4_give_39 (by decide) ?_
        exact w43 3 hf _ _ _ hP hD hS (lv_sub hl [1, 2, 3] rfl)
    · have hf := ite_t c_22 hf
      refine lv_iconst (v := 2) hx hb dX4_give_25 (by decide) ?_
      refine lv_goto (tgt := 43) hx hb dX4_give_26 (by decide) ?_
      exact w43 2 hf _ _ _ hP hD hS (lv_sub hl [1, 2, 3] rfl)
  · have hf := ite_t c_8 hf
    refine lv_iconst (v := 1) hx hb dX4_give_11 (by decide) ?_
    refine lv_goto (tgt := 43) hx hb dX4_give_12 (by decide) ?_
    exact w43 1 hf _ _ _ hP hD hS (lv_sub hl [1, 2, 3] rfl)
def rm_X4_setSum : Room := { frames := 2, cells := 0, slots := 0, locals := 43 }
set_option maxRecDepth 100000 in
set_option maxHeartbeats 8000000 in
theorem K_X4_setSum (l : Launch) (D : va_G) (cI cZ : ClassId) (md : Nat → Nat) (sz : Nat) (mth msz mrn mmy mdf mgu mhs mlv : Int32) (mba mgi mfi mle mst msu mtr mdi mfa mca : Nat → Int32) (p1 : Int32) (p2 : Int32) (r : (Int32 × Int32 × (Nat → Int32))) (hf : f_X4_setSum mth mrn msu p1 p2 = some r) : Met l yX4_setSum wsX4_setSum rm_X4_setSum (PC D cI cZ sz [.ref (md 0), .int p1, .int p2] (wM cI cZ md mth msz mrn mmy mdf mgu mhs mlv mba mgi mfi mle mst msu mtr mdi mfa mca)) (QI D cI cZ sz (wM cI cZ md mth msz mrn mmy mdf mgu mhs mlv mba mgi mfi mle mst msu mtr mdi mfa mca) r.1 (wM cI cZ md r.2.1 msz mrn mmy mdf mgu mhs mlv mba mgi mfi mle mst r.2.2 mtr mdi mfa mca)) 0 0 (va_A (wM cI cZ md mth msz mrn mmy mdf mgu mhs mlv mba mgi mfi mle mst msu mtr mdi mfa mca) sz) := by
  refine mk_i (cc := cX4_setSum) (maxL := 4) (lv0 := [(0, .ref (md 0)), (1, .int p1), (2, .int p2)]) (by decide) rfl (Nat.le_of_ble_eq_true rfl) rfl ?_
  intro p e s m args below meth c ls A Q H hx hb hml hown hts hK hP hD hA hS hl hR
  have hinX4 : ∀ w ∈ wsX40, w ∈ wsX4_setSum := by decide +kernel
  rw [f_X4_setSum] at hf
  refine lv_aload_n hx hb dX4_setSum_0 rfl (lv_at hl 0 rfl) ?_
  refine lv_aload_n hx hb dX4_setSum_1 rfl (lv_at hl 0 rfl) ?_
  refine lv_iload_n hx hb dX4_setSum_2 rfl (lv_at hl 1 rfl) ?_
  obtain ⟨x3, hy3, hf⟩ := Option.bind_eq_some_iff.mp hf
  refine clV_i (As := [.int p1]) (rest := [.ref (md 0)]) (wM cI cZ md mth msz mrn mmy mdf mgu mhs mlv mba mgi mfi mle mst msu mtr mdi mfa mca) ⟨hx, hb, hml, hown, hts⟩ (K_X4_isRun l D cI cZ md H.size mth msz mrn mmy mdf mgu mhs mlv mba mgi mfi mle mst msu mtr mdi mfa mca p1 _ hy3) (cwV 1 hts gX4_setSum_X4_isRun rfl rfl rfl (by decide +kernel) ⟨Nat.le_of_ble_eq_true rfl, Nat.le_of_ble_eq_true rfl⟩) hK hP hD hS hA hl.1 [0, 1, 2, 3, 4, 5, 6, 7, 8, 9, 10] (by decide) rfl rfl rfl 4 0 rfl rfl rfl rfl rfl (Nat.le_of_ble_eq_true rfl) dX4_setSum_3 ⟨Nat.le_of_ble_eq_true rfl, Nat.le_of_ble_eq_true rfl⟩ (fun H locs hP hD hS => ?_)
  obtain ⟨k28, hk28, hf⟩ := jn_some hf
  have w28 : ∀ (t0_28 : Int32), k28 t0_28 = some r → ∀ (H : Heap) (locs : List Loc) (ls : Array Slot), va_P D vwCl (wM cI cZ md mth msz mrn mmy mdf mgu mhs mlv mba mgi mfi mle mst msu mtr mdi mfa mca) H → va_D A (wM cI cZ md mth msz mrn mmy mdf mgu mhs mlv mba mgi mfi mle mst msu mtr mdi mfa mca) → va_S A s.heap H locs → lv_has ls 4 [(0, .ref (md 0)), (1, .int p1), (2, .int p2)] → W p l e rm_X4_setSum s m args below meth c H locs 0 0 Q (F0 m 28 ls [.int t0_28, .ref (md 0)]) := by
    intro t0_28 hf H locs ls hP hD hS hl
    rw [hk28] at hf
    try dsimp only at hf
    obtain ⟨x28, hy28, hf⟩ := jn_some hf
    refine clV_i (As := [.int t0_28]) (rest := []) (wM cI cZ md x28.2 msz mrn mmy mdf mgu mhs mlv mba mgi mfi mle mst msu mtr mdi mfa mca) ⟨hx, hb, hml, hown, hts⟩ (K_X4_goesWell l D cI cZ md H.size mth msz mrn mmy mdf mgu mhs mlv mba mgi mfi mle mst msu mtr mdi mfa mca t0_28 _ hy28.symm) (cwV 1 hts gX4_setSum_X4_goesWell rfl rfl rfl (by decide +kernel) ⟨Nat.le_of_ble_eq_true rfl, Nat.le_of_ble_eq_true rfl⟩) hK hP hD hS hA hl.1 [0, 1, 2, 3, 4, 5, 6, 7, 8, 9, 10] (by decide) rfl rfl rfl 4 0 rfl rfl rfl rfl rfl (Nat.le_of_ble_eq_true rfl) dX4_setSum_28 ⟨Nat.le_of_ble_eq_true rfl, Nat.le_of_ble_eq_true rfl⟩ (fun H locs hP hD hS => ?_)
    refine lv_if_ne (tgt := 36) hx hb dX4_setSum_31 (by decide) (fun c_31 => ?_) (fun c_31 => ?_)
    · have hf := ite_f c_31 hf
      refine lv_aload_n hx hb dX4_setSum_36 rfl (lv_at hl 0 rfl) ?_
      refine va_get (D := D) (ci := 4) (v := .ref (md 6)) (C := RX4) (T := TX4) (N := 18) hx hb hts hinX4 hown hK.1 hP 0 rfl rfl 8 (by decide) (hts (.fieldLink RX4 30 "GridpuzzleModel" "sums" "[I") (by decide +kernel)) (fun _ h9 => h9) rfl dX4_setSum_37 ?_
      refine lv_iload_n hx hb dX4_setSum_40 rfl (lv_at hl 1 rfl) ?_
      obtain ⟨hz41, hf⟩ := gd_some hf
      refine va_iald hx hb hK.1 hP 6 0 rfl rfl hz41 dX4_setSum_41 ?_
      refine lv_istore_n (lv' := [(3, .int (msu ((p1 : Int32)).toNatClampNeg)), (0, .ref (md 0)), (1, .int p1), (2, .int p2)]) hx hb dX4_setSum_42 rfl hl (by decide) rfl (fun ls hl => ?_)
      refine lv_aload_n hx hb dX4_setSum_43 rfl (lv_at hl 1 rfl) ?_
      refine va_get (D := D) (ci := 4) (v := .ref (md 6)) (C := RX4) (T := TX4) (N := 18) hx hb hts hinX4 hown hK.1 hP 0 rfl rfl 8 (by decide) (hts (.fieldLink RX4 30 "GridpuzzleModel" "sums" "[I") (by decide +kernel)) (fun _ h9 => h9) rfl dX4_setSum_44 ?_
      refine lv_iload_n hx hb dX4_setSum_47 rfl (lv_at hl 2 rfl) ?_
      refine lv_iload_n hx hb dX4_setSum_48 rfl (lv_at hl 3 rfl) ?_
      obtain ⟨hz49, hf⟩ := gd_some hf
      refine va_iast hx hb hK.1 hP hD hS 6 0 rfl rfl hz49 dX4_setSum_49 (fun H locs hP hD hS => ?_)
      have hP : va_P D vwCl (wM cI cZ md x28.2 msz mrn mmy mdf mgu mhs mlv mba mgi mfi mle mst (upd msu ((p1 : Int32)).toNatClampNeg p2) mtr mdi mfa mca) H := hP
      have hD : va_D A (wM cI cZ md x28.2 msz mrn mmy mdf mgu mhs mlv mba mgi mfi mle mst (upd msu ((p1 : Int32)).toNatClampNeg p2) mtr mdi mfa mca) := hD
      refine lv_iload_n hx hb dX4_setSum_50 rfl (lv_at hl 0 rfl) ?_
      cases hf
      exact hR _ _ _ _ _ _ rfl rfl hP hD hS dX4_setSum_51
    · have hf := ite_t c_31 hf
      refine lv_iconst (v := 0) hx hb dX4_setSum_34 (by decide) ?_
      cases hf
      exact hR _ _ _ _ _ _ rfl rfl hP hD hS dX4_setSum_35
  refine lv_if_ne (tgt := 13) hx hb dX4_setSum_6 (by decide) (fun c_6 => ?_) (fun c_6 => ?_)
  · have hf := ite_f c_6 hf
    refine lv_iload_n hx hb dX4_setSum_13 rfl (lv_at hl 2 rfl) ?_
    refine lv_iconst (v := 0) hx hb dX4_setSum_14 (by decide) ?_
    refine lv_bipush (v := 45) hx hb dX4_setSum_15 (by decide) ?_
    refine clS_i (As := [.int p2, .int 0, .int 45]) (rest := [.ref (md 0)]) (wM cI cZ md mth msz mrn mmy mdf mgu mhs mlv mba mgi mfi mle mst msu mtr mdi mfa mca) ⟨hx, hb, hml, hown, hts⟩ (K_X4_in l D cI cZ H.size  p2 0 45 _ rfl) (va_cwS 3 hts gX4_setSum_X4_in rfl rfl rfl (by decide +kernel) ⟨Nat.le_of_ble_eq_true rfl, Nat.le_of_ble_eq_true rfl⟩) hK hP hD hS hA hl.1 [] (by decide) rfl rfl rfl rfl rfl (Nat.le_of_ble_eq_true rfl) dX4_setSum_17 ⟨Nat.le_of_ble_eq_true rfl, Nat.le_of_ble_eq_true rfl⟩ (fun H locs hP hD hS => ?_)
    refine lv_if_eq (tgt := 27) hx hb dX4_setSum_20 (by decide) (fun c_20 => ?_) (fun c_20 => ?_)
    · have hf := ite_t c_20 hf
      refine lv_iconst (v := 2) hx hb dX4_setSum_27 (by decide) ?_
      exact w28 2 hf _ _ _ hP hD hS (lv_sub hl [0, 1, 2] rfl)
    · have hf := ite_f c_20 hf
      refine lv_iconst (v := 0) hx hb dX4_setSum_23 (by decide) ?_
      refine lv_goto (tgt := 28) hx hb dX4_setSum_24 (by decide) ?_
      exact w28 0 hf _ _ _ hP hD hS (lv_sub hl [0, 1, 2] rfl)
  · have hf := ite_t c_6 hf
    refine lv_iconst (v := 1) hx hb dX4_setSum_9 (by decide) ?_
    refine lv_goto (tgt := 28) hx hb dX4_setSum_10 (by decide) ?_
    exact w28 1 hf _ _ _ hP hD hS (lv_sub hl [0, 1, 2] rfl)
def rm_X4_cellOf : Room := { frames := 0, cells := 0, slots := 0, locals := 0 }
set_option maxRecDepth 100000 in
set_option maxHeartbeats 8000000 in
theorem K_X4_cellOf (l : Launch) (D : va_G) (cI cZ : ClassId) (md : Nat → Nat) (sz : Nat) (mth msz mrn mmy mdf mgu mhs mlv : Int32) (mba mgi mfi mle mst msu mtr mdi mfa mca : Nat → Int32) (p1 : Int32) (p2 : Int32) (r : (Int32)) (hf : f_X4_cellOf mfi mst p1 p2 = some r) : Met l yX4_cellOf wsX4_cellOf rm_X4_cellOf (PC D cI cZ sz [.ref (md 0), .int p1, .int p2] (wM cI cZ md mth msz mrn mmy mdf mgu mhs mlv mba mgi mfi mle mst msu mtr mdi mfa mca)) (QI D cI cZ sz (wM cI cZ md mth msz mrn mmy mdf mgu mhs mlv mba mgi mfi mle mst msu mtr mdi mfa mca) r (wM cI cZ md mth msz mrn mmy mdf mgu mhs mlv mba mgi mfi mle mst msu mtr mdi mfa mca)) 0 0 (va_A (wM cI cZ md mth msz mrn mmy mdf mgu mhs mlv mba mgi mfi mle mst msu mtr mdi mfa mca) sz) := by
  refine mk_i (cc := cX4_cellOf) (maxL := 3) (lv0 := [(0, .ref (md 0)), (1, .int p1), (2, .int p2)]) (by decide) rfl (Nat.le_of_ble_eq_true rfl) rfl ?_
  intro p e s m args below meth c ls A Q H hx hb hml hown hts hK hP hD hA hS hl hR
  have hinX4 : ∀ w ∈ wsX40, w ∈ wsX4_cellOf := by decide +kernel
  rw [f_X4_cellOf] at hf
  refine lv_aload_n hx hb dX4_cellOf_0 rfl (lv_at hl 0 rfl) ?_
  refine va_get (D := D) (ci := 4) (v := .ref (md 3)) (C := RX4) (T := TX4) (N := 18) hx hb hts hinX4 hown hK.1 hP 0 rfl rfl 5 (by decide) (hts (.fieldLink RX4 21 "GridpuzzleModel" "firsts" "[I") (by decide +kernel)) (fun _ h9 => h9) rfl dX4_cellOf_1 ?_
  refine lv_iload_n hx hb dX4_cellOf_4 rfl (lv_at hl 1 rfl) ?_
  obtain ⟨hz5, hf⟩ := gd_some hf
  refine va_iald hx hb hK.1 hP 3 0 rfl rfl hz5 dX4_cellOf_5 ?_
  refine lv_aload_n hx hb dX4_cellOf_6 rfl (lv_at hl 0 rfl) ?_
  refine va_get (D := D) (ci := 4) (v := .ref (md 5)) (C := RX4) (T := TX4) (N := 18) hx hb hts hinX4 hown hK.1 hP 0 rfl rfl 7 (by decide) (hts (.fieldLink RX4 27 "GridpuzzleModel" "steps" "[I") (by decide +kernel)) (fun _ h9 => h9) rfl dX4_cellOf_7 ?_
  refine lv_iload_n hx hb dX4_cellOf_10 rfl (lv_at hl 1 rfl) ?_
  obtain ⟨hz11, hf⟩ := gd_some hf
  refine va_iald hx hb hK.1 hP 5 0 rfl rfl hz11 dX4_cellOf_11 ?_
  refine lv_iload_n hx hb dX4_cellOf_12 rfl (lv_at hl 2 rfl) ?_
  refine lv_imul hx hb dX4_cellOf_13 ?_
  refine lv_iadd hx hb dX4_cellOf_14 ?_
  cases hf
  exact hR _ _ _ _ _ _ rfl rfl hP hD hS dX4_cellOf_15
def rm_X4_has : Room := { frames := 0, cells := 0, slots := 0, locals := 0 }
set_option maxRecDepth 100000 in
set_option maxHeartbeats 8000000 in
theorem K_X4_has (l : Launch) (D : va_G) (cI cZ : ClassId) (md : Nat → Nat) (sz : Nat) (mth msz mrn mmy mdf mgu mhs mlv : Int32) (mba mgi mfi mle mst msu mtr mdi mfa mca : Nat → Int32) (p1 : Int32) (p2 : Int32) (r : (Int32)) (hf : f_X4_has mfi mle mst p1 p2 = some r) : Met l yX4_has wsX4_has rm_X4_has (PC D cI cZ sz [.ref (md 0), .int p1, .int p2] (wM cI cZ md mth msz mrn mmy mdf mgu mhs mlv mba mgi mfi mle mst msu mtr mdi mfa mca)) (QI D cI cZ sz (wM cI cZ md mth msz mrn mmy mdf mgu mhs mlv mba mgi mfi mle mst msu mtr mdi mfa mca) r (wM cI cZ md mth msz mrn mmy mdf mgu mhs mlv mba mgi mfi mle mst msu mtr mdi mfa mca)) 0 0 (va_A (wM cI cZ md mth msz mrn mmy mdf mgu mhs mlv mba mgi mfi mle mst msu mtr mdi mfa mca) sz) := by
  refine mk_z (cc := cX4_has) (maxL := 4) (lv0 := [(0, .ref (md 0)), (1, .int p1), (2, .int p2)]) (by decide) rfl (Nat.le_of_ble_eq_true rfl) rfl ?_
  intro p e s m args below meth c ls A Q H hx hb hml hown hts hK hP hD hA hS hl hR
  have hinX4 : ∀ w ∈ wsX40, w ∈ wsX4_has := by decide +kernel
  rw [f_X4_has] at hf
  refine lv_iload_n hx hb dX4_has_0 rfl (lv_at hl 2 rfl) ?_
  refine lv_aload_n hx hb dX4_has_1 rfl (lv_at hl 0 rfl) ?_
  refine va_get (D := D) (ci := 4) (v := .ref (md 3)) (C := RX4) (T := TX4) (N := 18) hx hb hts hinX4 hown hK.1 hP 0 rfl rfl 5 (by decide) (hts (.fieldLink RX4 21 "GridpuzzleModel" "firsts" "[I") (by decide +kernel)) (fun _ h9 => h9) rfl dX4_has_2 ?_
  refine lv_iload_n hx hb dX4_has_5 rfl (lv_at hl 1 rfl) ?_
  obtain ⟨hz6, hf⟩ := gd_some hf
  refine va_iald hx hb hK.1 hP 3 0 rfl rfl hz6 dX4_has_6 ?_
  refine lv_isub hx hb dX4_has_7 ?_
  refine lv_istore_n (lv' := [(3, .int (p2 - (mfi ((p1 : Int32)).toNatClampNeg))), (0, .ref (md 0)), (1, .int p1), (2, .int p2)]) hx hb dX4_has_8 rfl hl (by decide) rfl (fun ls hl => ?_)
  refine lv_iload_n hx hb dX4_has_9 rfl (lv_at hl 0 rfl) ?_
  obtain ⟨k45, hk45, hf⟩ := jn_some hf
  have w45 : ∀ (_ : Unit), k45 () = some r → ∀ (H : Heap) (locs : List Loc) (ls : Array Slot), va_P D vwCl (wM cI cZ md mth msz mrn mmy mdf mgu mhs mlv mba mgi mfi mle mst msu mtr mdi mfa mca) H → va_D A (wM cI cZ md mth msz mrn mmy mdf mgu mhs mlv mba mgi mfi mle mst msu mtr mdi mfa mca) → va_S A s.heap H locs → lv_has ls 4 [] → W p l e rm_X4_has s m args below meth c H locs 0 0 Q (F0 m 45 ls []) := by
    intro _ hf H locs ls hP hD hS hl
    rw [hk45] at hf
    try dsimp only at hf
    refine lv_iconst (v := 0) hx hb dX4_has_45 (by decide) ?_
    cases hf
    exact hR _ _ _ _ _ _ (by decide) rfl rfl hP hD hS dX4_has_46
  refine lv_if_lt (tgt := 45) hx hb dX4_has_10 (by decide) (fun c_10 => ?_) (fun c_10 => ?_)
  · have hf := ite_t c_10 hf
    exact w45 () hf _ _ _ hP hD hS (lv_sub hl [] rfl)
  · have hf := ite_f c_10 hf
    refine lv_iload_n hx hb dX4_has_13 rfl (lv_at hl 0 rfl) ?_
    refine lv_aload_n hx hb dX4_has_14 rfl (lv_at hl 1 rfl) ?_
    refine va_get (D := D) (ci := 4) (v := .ref (md 5)) (C := RX4) (T := TX4) (N := 18) hx hb hts hinX4 hown hK.1 hP 0 rfl rfl 7 (by decide) (hts (.fieldLink RX4 27 "GridpuzzleModel" "steps" "[I") (by decide +kernel)) (fun _ h9 => h9) rfl dX4_has_15 ?_
    refine lv_iload_n hx hb dX4_has_18 rfl (lv_at hl 2 rfl) ?_
    obtain ⟨hz19, hf⟩ := gd_some hf
    refine va_iald hx hb hK.1 hP 5 0 rfl rfl hz19 dX4_has_19 ?_
    obtain ⟨hz20, hf⟩ := gd_some hf
    refine lv_irem hx hb dX4_has_20 hz20 ?_
    refine lv_if_ne (tgt := 45) hx hb dX4_has_21 (by decide) (fun c_21 => ?_) (fun c_21 => ?_)
    · have hf := ite_f c_21 hf
      exact w45 () hf _ _ _ hP hD hS (lv_sub hl [] rfl)
    · have hf := ite_t c_21 hf
      refine lv_iload_n hx hb dX4_has_24 rfl (lv_at hl 0 rfl) ?_
      refine lv_aload_n hx hb dX4_has_25 rfl (lv_at hl 1 rfl) ?_
      refine va_get (D := D) (ci := 4) (v := .ref (md 5)) (C := RX4) (T := TX4) (N := 18) hx hb hts hinX4 hown hK.1 hP 0 rfl rfl 7 (by decide) (hts (.fieldLink RX4 27 "GridpuzzleModel" "steps" "[I") (by decide +kernel)) (fun _ h9 => h9) rfl dX4_has_26 ?_
      refine lv_iload_n hx hb dX4_has_29 rfl (lv_at hl 2 rfl) ?_
      obtain ⟨hz30, hf⟩ := gd_some hf
      refine va_iald hx hb hK.1 hP 5 0 rfl rfl hz30 dX4_has_30 ?_
      obtain ⟨hz31, hf⟩ := gd_some hf
      refine lv_idiv hx hb dX4_has_31 hz31 ?_
      refine lv_aload_n hx hb dX4_has_32 rfl (lv_at hl 1 rfl) ?_
      refine va_get (D := D) (ci := 4) (v := .ref (md 4)) (C := RX4) (T := TX4) (N := 18) hx hb hts hinX4 hown hK.1 hP 0 rfl rfl 6 (by decide) (hts (.fieldLink RX4 24 "GridpuzzleModel" "lengths" "[I") (by decide +kernel)) (fun _ h9 => h9) rfl dX4_has_33 ?_
      refine lv_iload_n hx hb dX4_has_36 rfl (lv_at hl 2 rfl) ?_
      obtain ⟨hz37, hf⟩ := gd_some hf
      refine va_iald hx hb hK.1 hP 4 0 rfl rfl hz37 dX4_has_37 ?_
      refine lv_icmp_ge (tgt := 45) hx hb dX4_has_38 (by decide) (fun c_38 => ?_) (fun c_38 => ?_)
      · have hf := ite_t c_38 hf
        exact w45 () hf _ _ _ hP hD hS (lv_sub hl [] rfl)
      · have hf := ite_f c_38 hf
        refine lv_iconst (v := 1) hx hb dX4_has_41 (by decide) ?_
        refine lv_goto (tgt := 46) hx hb dX4_has_42 (by decide) ?_
        cases hf
        exact hR _ _ _ _ _ _ (by decide) rfl rfl hP hD hS dX4_has_46
def rm_X4_copyGiven : Room := { frames := 0, cells := 0, slots := 0, locals := 0 }
set_option maxRecDepth 100000 in
set_option maxHeartbeats 8000000 in
theorem K_X4_copyGiven (l : Launch) (D : va_G) (cI cZ : ClassId) (md : Nat → Nat) (sz : Nat) (N : Nat) (mth msz mrn mmy mdf mgu mhs mlv : Int32) (mba mgi mfi mle mst msu mtr mdi mfa mca : Nat → Int32) (r : ((Nat → Int32))) (hf : f_X4_copyGiven N mgi mdi = some r) : Met l yX4_copyGiven wsX4_copyGiven rm_X4_copyGiven (PC D cI cZ sz [.ref (md 0)] (wM cI cZ md mth msz mrn mmy mdf mgu mhs mlv mba mgi mfi mle mst msu mtr mdi mfa mca)) (QV D cI cZ sz (wM cI cZ md mth msz mrn mmy mdf mgu mhs mlv mba mgi mfi mle mst msu mtr mdi mfa mca) (wM cI cZ md mth msz mrn mmy mdf mgu mhs mlv mba mgi mfi mle mst msu mtr r mfa mca)) 0 0 (va_A (wM cI cZ md mth msz mrn mmy mdf mgu mhs mlv mba mgi mfi mle mst msu mtr mdi mfa mca) sz) := by
  refine mk_v (cc := cX4_copyGiven) (maxL := 2) (lv0 := [(0, .ref (md 0))]) (by decide) rfl (Nat.le_of_ble_eq_true rfl) rfl ?_
  intro p e s m args below meth c ls A Q H hx hb hml hown hts hK hP hD hA hS hl hR
  have hinX4 : ∀ w ∈ wsX40, w ∈ wsX4_copyGiven := by decide +kernel
  rw [f_X4_copyGiven] at hf
  refine lv_iconst (v := 0) hx hb dX4_copyGiven_0 (by decide) ?_
  refine lv_istore_n (lv' := [(1, .int 0), (0, .ref (md 0))]) hx hb dX4_copyGiven_1 rfl hl (by decide) rfl (fun ls hl => ?_)
  have l2 : ∀ (nn : Nat) (v1_2 : Int32) (mdi_2 : Nat → Int32), f_X4_copyGiven_L2 mgi nn v1_2 mdi_2 = some r → ∀ (H : Heap) (locs : List Loc) (ls : Array Slot), va_P D vwCl (wM cI cZ md mth msz mrn mmy mdf mgu mhs mlv mba mgi mfi mle mst msu mtr mdi_2 mfa mca) H → va_D A (wM cI cZ md mth msz mrn mmy mdf mgu mhs mlv mba mgi mfi mle mst msu mtr mdi_2 mfa mca) → va_S A s.heap H locs → lv_has ls 2 [(0, .ref (md 0)), (1, .int v1_2)] → W p l e rm_X4_copyGiven s m args below meth c H locs 0 0 Q (F0 m 2 ls []) := by
    intro nn
    induction nn with
    | zero => intro _ _ hf; exact nomatch (show (none : Option _) = some r from hf)
    | succ n2 ih2 =>
      intro v1_2 mdi_2 hf H locs ls hP hD hS hl
      rw [f_X4_copyGiven_L2.eq_2] at hf
      refine lv_iload_n hx hb dX4_copyGiven_2 rfl (lv_at hl 1 rfl) ?_
      refine lv_bipush (v := 16) hx hb dX4_copyGiven_3 (by decide) ?_
      refine lv_icmp_ge (tgt := 26) hx hb dX4_copyGiven_5 (by decide) (fun c_5 => ?_) (fun c_5 => ?_)
      · have hf := ite_t c_5 hf
        cases hf
        exact hR _ _ _ _ _ rfl hP hD hS dX4_copyGiven_26
      · have hf := ite_f c_5 hf
        refine lv_aload_n hx hb dX4_copyGiven_8 rfl (lv_at hl 0 rfl) ?_
        refine va_get (D := D) (ci := 4) (v := .ref (md 8)) (C := RX4) (T := TX4) (N := 18) hx hb hts hinX4 hown hK.1 hP 0 rfl rfl 11 (by decide) (hts (.fieldLink RX4 36 "GridpuzzleModel" "digits" "[I") (by decide +kernel)) (fun _ h9 => h9) rfl dX4_copyGiven_9 ?_
        refine lv_iload_n hx hb dX4_copyGiven_12 rfl (lv_at hl 1 rfl) ?_
        refine lv_aload_n hx hb dX4_copyGiven_13 rfl (lv_at hl 0 rfl) ?_
        refine va_get (D := D) (ci := 4) (v := .ref (md 2)) (C := RX4) (T := TX4) (N := 18) hx hb hts hinX4 hown hK.1 hP 0 rfl rfl 3 (by decide) (hts (.fieldLink RX4 17 "GridpuzzleModel" "given" "[I") (by decide +kernel)) (fun _ h9 => h9) rfl dX4_copyGiven_14 ?_
        refine lv_iload_n hx hb dX4_copyGiven_17 rfl (lv_at hl 1 rfl) ?_
        obtain ⟨hz18, hf⟩ := gd_some hf
        refine va_iald hx hb hK.1 hP 2 0 rfl rfl hz18 dX4_copyGiven_18 ?_
        obtain ⟨hz19, hf⟩ := gd_some hf
        refine va_iast hx hb hK.1 hP hD hS 8 0 rfl rfl hz19 dX4_copyGiven_19 (fun H locs hP hD hS => ?_)
        have hP : va_P D vwCl (wM cI cZ md mth msz mrn mmy mdf mgu mhs mlv mba mgi mfi mle mst msu mtr (upd mdi_2 ((v1_2 : Int32)).toNatClampNeg (mgi ((v1_2 : Int32)).toNatClampNeg)) mfa mca) H := hP
        have hD : va_D A (wM cI cZ md mth msz mrn mmy mdf mgu mhs mlv mba mgi mfi mle mst msu mtr (upd mdi_2 ((v1_2 : Int32)).toNatClampNeg (mgi ((v1_2 : Int32)).toNatClampNeg)) mfa mca) := hD
        refine lv_iinc (v := (v1_2 + 1)) (lv' := [(1, .int (v1_2 + 1)), (0, .ref (md 0))]) hx hb dX4_copyGiven_20 hl (k := 1) rfl rfl (by decide) rfl (fun ls hl => ?_)
        refine lv_goto (tgt := 2) hx hb dX4_copyGiven_23 (by decide) ?_
        exact ih2 (v1_2 + 1) (upd mdi_2 ((v1_2 : Int32)).toNatClampNeg (mgi ((v1_2 : Int32)).toNatClampNeg)) hf _ _ _ hP hD hS (lv_sub hl [1, 0] rfl)
  exact l2 N 0 mdi hf _ _ _ hP hD hS (lv_sub hl [1, 0] rfl)
def rm_X4_isUnlike : Room := { frames := 1, cells := 0, slots := 0, locals := 22 }
set_option maxRecDepth 100000 in
set_option maxHeartbeats 8000000 in
theorem K_X4_isUnlike (l : Launch) (D : va_G) (cI cZ : ClassId) (md : Nat → Nat) (sz : Nat) (N : Nat) (mth msz mrn mmy mdf mgu mhs mlv : Int32) (mba mgi mfi mle mst msu mtr mdi mfa mca : Nat → Int32) (p1 : Int32) (r : (Int32)) (hf : f_X4_isUnlike N mfi mle mst mdi p1 = some r) : Met l yX4_isUnlike wsX4_isUnlike rm_X4_isUnlike (PC D cI cZ sz [.ref (md 0), .int p1] (wM cI cZ md mth msz mrn mmy mdf mgu mhs mlv mba mgi mfi mle mst msu mtr mdi mfa mca)) (QI D cI cZ sz (wM cI cZ md mth msz mrn mmy mdf mgu mhs mlv mba mgi mfi mle mst msu mtr mdi mfa mca) r (wM cI cZ md mth msz mrn mmy mdf mgu mhs mlv mba mgi mfi mle mst msu mtr mdi mfa mca)) 0 0 (va_A (wM cI cZ md mth msz mrn mmy mdf mgu mhs mlv mba mgi mfi mle mst msu mtr mdi mfa mca) sz) := by
  refine mk_z (cc := cX4_isUnlike) (maxL := 6) (lv0 := [(0, .ref (md 0)), (1, .int p1)]) (by decide) rfl (Nat.le_of_ble_eq_true rfl) rfl ?_
  intro p e s m args below meth c ls A Q H hx hb hml hown hts hK hP hD hA hS hl hR
  have hinX4 : ∀ w ∈ wsX40, w ∈ wsX4_isUnlike := by decide +kernel
  rw [f_X4_isUnlike] at hf
  refine lv_iconst (v := 0) hx hb dX4_isUnlike_0 (by decide) ?_
  refine lv_istore_n (lv' := [(2, .int 0), (0, .ref (md 0)), (1, .int p1)]) hx hb dX4_isUnlike_1 rfl hl (by decide) rfl (fun ls hl => ?_)
  refine lv_iconst (v := 1) hx hb dX4_isUnlike_2 (by decide) ?_
  refine lv_istore_n (lv' := [(3, .int 1), (2, .int 0), (0, .ref (md 0)), (1, .int p1)]) hx hb dX4_isUnlike_3 rfl hl (by decide) rfl (fun ls hl => ?_)
  refine lv_iconst (v := 0) hx hb dX4_isUnlike_4 (by decide) ?_
  refine lv_istore (lv' := [(4, .int 0), (3, .int 1), (2, .int 0), (0, .ref (md 0)), (1, .int p1)]) hx hb dX4_isUnlike_5 hl (by decide) rfl (fun ls hl => ?_)
  have l7 : ∀ (nn : Nat) (v2_7 : Int32) (v3_7 : Int32) (v4_7 : Int32), f_X4_isUnlike_L7 p1 mfi mle mst mdi nn v2_7 v3_7 v4_7 = some r → ∀ (H : Heap) (locs : List Loc) (ls : Array Slot), va_P D vwCl (wM cI cZ md mth msz mrn mmy mdf mgu mhs mlv mba mgi mfi mle mst msu mtr mdi mfa mca) H → va_D A (wM cI cZ md mth msz mrn mmy mdf mgu mhs mlv mba mgi mfi mle mst msu mtr mdi mfa mca) → va_S A s.heap H locs → lv_has ls 6 [(0, .ref (md 0)), (1, .int p1), (2, .int v2_7), (3, .int v3_7), (4, .int v4_7)] → W p l e rm_X4_isUnlike s m args below meth c H locs 0 0 Q (F0 m 7 ls []) := by
    intro nn
    induction nn with
    | zero => intro _ _ _ hf; exact nomatch (show (none : Option _) = some r from hf)
    | succ n7 ih7 =>
      intro v2_7 v3_7 v4_7 hf H locs ls hP hD hS hl
      rw [f_X4_isUnlike_L7.eq_2] at hf
      refine lv_iload hx hb dX4_isUnlike_7 (lv_at hl 4 rfl) ?_
      refine lv_aload_n hx hb dX4_isUnlike_9 rfl (lv_at hl 0 rfl) ?_
      refine va_get (D := D) (ci := 4) (v := .ref (md 4)) (C := RX4) (T := TX4) (N := 18) hx hb hts hinX4 hown hK.1 hP 0 rfl rfl 6 (by decide) (hts (.fieldLink RX4 24 "GridpuzzleModel" "lengths" "[I") (by decide +kernel)) (fun _ h9 => h9) rfl dX4_isUnlike_10 ?_
      refine lv_iload_n hx hb dX4_isUnlike_13 rfl (lv_at hl 1 rfl) ?_
      obtain ⟨hz14, hf⟩ := gd_some hf
      refine va_iald hx hb hK.1 hP 4 0 rfl rfl hz14 dX4_isUnlike_14 ?_
      refine lv_icmp_ge (tgt := 62) hx hb dX4_isUnlike_15 (by decide) (fun c_15 => ?_) (fun c_15 => ?_)
      · have hf := ite_t c_15 hf
        refine lv_iload_n hx hb dX4_isUnlike_62 rfl (lv_at hl 3 rfl) ?_
        obtain ⟨hz63, hf⟩ := gd_some hf
        cases hf
        exact hR _ _ _ _ _ _ hz63 rfl rfl hP hD hS dX4_isUnlike_63
      · have hf := ite_f c_15 hf
        refine lv_iconst (v := 1) hx hb dX4_isUnlike_18 (by decide) ?_
        refine lv_aload_n hx hb dX4_isUnlike_19 rfl (lv_at hl 0 rfl) ?_
        refine va_get (D := D) (ci := 4) (v := .ref (md 8)) (C := RX4) (T := TX4) (N := 18) hx hb hts hinX4 hown hK.1 hP 0 rfl rfl 11 (by decide) (hts (.fieldLink RX4 36 "GridpuzzleModel" "digits" "[I") (by decide +kernel)) (fun _ h9 => h9) rfl dX4_isUnlike_20 ?_
        refine lv_aload_n hx hb dX4_isUnlike_23 rfl (lv_at hl 0 rfl) ?_
        refine lv_iload_n hx hb dX4_isUnlike_24 rfl (lv_at hl 1 rfl) ?_
        refine lv_iload hx hb dX4_isUnlike_25 (lv_at hl 4 rfl) ?_
        obtain ⟨x27, hy27, hf⟩ := Option.bind_eq_some_iff.mp hf
        refine clV_i (As := [.int p1, .int v4_7]) (rest := [.ref (md 8), .int 1]) (wM cI cZ md mth msz mrn mmy mdf mgu mhs mlv mba mgi mfi mle mst msu mtr mdi mfa mca) ⟨hx, hb, hml, hown, hts⟩ (K_X4_cellOf l D cI cZ md H.size mth msz mrn mmy mdf mgu mhs mlv mba mgi mfi mle mst msu mtr mdi mfa mca p1 v4_7 _ hy27) (cwV 2 hts gX4_isUnlike_X4_cellOf rfl rfl rfl (by decide +kernel) ⟨Nat.le_of_ble_eq_true rfl, Nat.le_of_ble_eq_true rfl⟩) hK hP hD hS hA hl.1 [0, 1, 2, 3, 4, 5, 6, 7, 8, 9, 10] (by decide) rfl rfl rfl 4 0 rfl rfl rfl rfl rfl (Nat.le_of_ble_eq_true rfl) dX4_isUnlike_27 ⟨Nat.le_of_ble_eq_true rfl, Nat.le_of_ble_eq_true rfl⟩ (fun H locs hP hD hS => ?_)
        obtain ⟨hz30, hf⟩ := gd_some hf
        refine va_iald hx hb hK.1 hP 8 0 rfl rfl hz30 dX4_isUnlike_30 ?_
        refine lv_ishl hx hb dX4_isUnlike_31 ?_
        refine lv_istore (lv' := [(5, .int (1 <<< ((mdi ((x27 : Int32)).toNatClampNeg) &&& 31))), (0, .ref (md 0)), (1, .int p1), (2, .int v2_7), (3, .int v3_7), (4, .int v4_7)]) hx hb dX4_isUnlike_32 hl (by decide) rfl (fun ls hl => ?_)
        refine lv_iload_n hx hb dX4_isUnlike_34 rfl (lv_at hl 4 rfl) ?_
        obtain ⟨k50, hk50, hf⟩ := jn_some hf
        have w50 : ∀ (t0_50 : Int32), k50 t0_50 = some r → ∀ (H : Heap) (locs : List Loc) (ls : Array Slot), va_P D vwCl (wM cI cZ md mth msz mrn mmy mdf mgu mhs mlv mba mgi mfi mle mst msu mtr mdi mfa mca) H → va_D A (wM cI cZ md mth msz mrn mmy mdf mgu mhs mlv mba mgi mfi mle mst msu mtr mdi mfa mca) → va_S A s.heap H locs → lv_has ls 6 [(0, .ref (md 0)), (1, .int p1), (2, .int v2_7), (4, .int v4_7), (5, .int (1 <<< ((mdi ((x27 : Int32)).toNatClampNeg) &&& 31)))] → W p l e rm_X4_isUnlike s m args below meth c H locs 0 0 Q (F0 m 50 ls [.int t0_50]) := by
          intro t0_50 hf H locs ls hP hD hS hl
          rw [hk50] at hf
          try dsimp only at hf
          refine lv_istore_n (lv' := [(3, .int t0_50), (0, .ref (md 0)), (1, .int p1), (2, .int v2_7), (4, .int v4_7), (5, .int (1 <<< ((mdi ((x27 : Int32)).toNatClampNeg) &&& 31)))]) hx hb dX4_isUnlike_50 rfl hl (by decide) rfl (fun ls hl => ?_)
          refine lv_iload_n hx hb dX4_isUnlike_51 rfl (lv_at hl 3 rfl) ?_
          refine lv_iload hx hb dX4_isUnlike_52 (lv_at hl 5 rfl) ?_
          refine lv_ior hx hb dX4_isUnlike_54 ?_
          refine lv_istore_n (lv' := [(2, .int (v2_7 ||| (1 <<< ((mdi ((x27 : Int32)).toNatClampNeg) &&& 31)))), (3, .int t0_50), (0, .ref (md 0)), (1, .int p1), (4, .int v4_7), (5, .int (1 <<< ((mdi ((x27 : Int32)).toNatClampNeg) &&& 31)))]) hx hb dX4_isUnlike_55 rfl hl (by decide) rfl (fun ls hl => ?_)
          refine lv_iinc (v := (v4_7 + 1)) (lv' := [(4, .int (v4_7 + 1)), (2, .int (v2_7 ||| (1 <<< ((mdi ((x27 : Int32)).toNatClampNeg) &&& 31)))), (3, .int t0_50), (0, .ref (md 0)), (1, .int p1), (5, .int (1 <<< ((mdi ((x27 : Int32)).toNatClampNeg) &&& 31)))]) hx hb dX4_isUnlike_56 hl (k := 4) rfl rfl (by decide) rfl (fun ls hl => ?_)
          refine lv_goto (tgt := 7) hx hb dX4_isUnlike_59 (by decide) ?_
          exact ih7 (v2_7 ||| (1 <<< ((mdi ((x27 : Int32)).toNatClampNeg) &&& 31))) t0_50 (v4_7 + 1) hf _ _ _ hP hD hS (lv_sub hl [3, 4, 1, 2, 0] rfl)
        obtain ⟨k49, hk49, hf⟩ := jn_some hf
        have w49 : ∀ (_ : Unit), k49 () = some r → ∀ (H : Heap) (locs : List Loc) (ls : Array Slot), va_P D vwCl (wM cI cZ md mth msz mrn mmy mdf mgu mhs mlv mba mgi mfi mle mst msu mtr mdi mfa mca) H → va_D A (wM cI cZ md mth msz mrn mmy mdf mgu mhs mlv mba mgi mfi mle mst msu mtr mdi mfa mca) → va_S A s.heap H locs → lv_has ls 6 [(0, .ref (md 0)), (1, .int p1), (2, .int v2_7), (4, .int v4_7), (5, .int (1 <<< ((mdi ((x27 : Int32)).toNatClampNeg) &&& 31)))] → W p l e rm_X4_isUnlike s m args below meth c H locs 0 0 Q (F0 m 49 ls []) := by
          intro _ hf H locs ls hP hD hS hl
          rw [hk49] at hf
          try dsimp only at hf
          refine lv_iconst (v := 0) hx hb dX4_isUnlike_49 (by decide) ?_
          exact w50 0 hf _ _ _ hP hD hS (lv_sub hl [0, 1, 2, 3, 4] rfl)
        refine lv_if_eq (tgt := 49) hx hb dX4_isUnlike_35 (by decide) (fun c_35 => ?_) (fun c_35 => ?_)
        · have hf := ite_t c_35 hf
          exact w49 () hf _ _ _ hP hD hS (lv_sub hl [1, 2, 3, 5, 0] rfl)
        · have hf := ite_f c_35 hf
          refine lv_iload_n hx hb dX4_isUnlike_38 rfl (lv_at hl 3 rfl) ?_
          refine lv_iload hx hb dX4_isUnlike_39 (lv_at hl 0 rfl) ?_
          refine lv_iand hx hb dX4_isUnlike_41 ?_
          refine lv_if_ne (tgt := 49) hx hb dX4_isUnlike_42 (by decide) (fun c_42 => ?_) (fun c_42 => ?_)
          · have hf := ite_f c_42 hf
            exact w49 () hf _ _ _ hP hD hS (lv_sub hl [1, 2, 3, 5, 0] rfl)
          · have hf := ite_t c_42 hf
            refine lv_iconst (v := 1) hx hb dX4_isUnlike_45 (by decide) ?_
            refine lv_goto (tgt := 50) hx hb dX4_isUnlike_46 (by decide) ?_
            exact w50 1 hf _ _ _ hP hD hS (lv_sub hl [1, 2, 3, 5, 0] rfl)
  exact l7 N 0 1 0 hf _ _ _ hP hD hS (lv_sub hl [3, 4, 2, 1, 0] rfl)
def rm_X4_sumUp : Room := { frames := 1, cells := 0, slots := 0, locals := 22 }
set_option maxRecDepth 100000 in
set_option maxHeartbeats 8000000 in
theorem K_X4_sumUp (l : Launch) (D : va_G) (cI cZ : ClassId) (md : Nat → Nat) (sz : Nat) (N : Nat) (mth msz mrn mmy mdf mgu mhs mlv : Int32) (mba mgi mfi mle mst msu mtr mdi mfa mca : Nat → Int32) (p1 : Int32) (r : (Int32)) (hf : f_X4_sumUp N mfi mle mst mdi p1 = some r) : Met l yX4_sumUp wsX4_sumUp rm_X4_sumUp (PC D cI cZ sz [.ref (md 0), .int p1] (wM cI cZ md mth msz mrn mmy mdf mgu mhs mlv mba mgi mfi mle mst msu mtr mdi mfa mca)) (QI D cI cZ sz (wM cI cZ md mth msz mrn mmy mdf mgu mhs mlv mba mgi mfi mle mst msu mtr mdi mfa mca) r (wM cI cZ md mth msz mrn mmy mdf mgu mhs mlv mba mgi mfi mle mst msu mtr mdi mfa mca)) 0 0 (va_A (wM cI cZ md mth msz mrn mmy mdf mgu mhs mlv mba mgi mfi mle mst msu mtr mdi mfa mca) sz) := by
  refine mk_i (cc := cX4_sumUp) (maxL := 4) (lv0 := [(0, .ref (md 0)), (1, .int p1)]) (by decide) rfl (Nat.le_of_ble_eq_true rfl) rfl ?_
  intro p e s m args below meth c ls A Q H hx hb hml hown hts hK hP hD hA hS hl hR
  have hinX4 : ∀ w ∈ wsX40, w ∈ wsX4_sumUp := by decide +kernel
  rw [f_X4_sumUp] at hf
  refine lv_iconst (v := 0) hx hb dX4_sumUp_0 (by decide) ?_
  refine lv_istore_n (lv' := [(2, .int 0), (0, .ref (md 0)), (1, .int p1)]) hx hb dX4_sumUp_1 rfl hl (by decide) rfl (fun ls hl => ?_)
  refine lv_iconst (v := 0) hx hb dX4_sumUp_2 (by decide) ?_
  refine lv_istore_n (lv' := [(3, .int 0), (2, .int 0), (0, .ref (md 0)), (1, .int p1)]) hx hb dX4_sumUp_3 rfl hl (by decide) rfl (fun ls hl => ?_)
  have l4 : ∀ (nn : Nat) (v2_4 : Int32) (v3_4 : Int32), f_X4_sumUp_L4 p1 mfi mle mst mdi nn v2_4 v3_4 = some r → ∀ (H : Heap) (locs : List Loc) (ls : Array Slot), va_P D vwCl (wM cI cZ md mth msz mrn mmy mdf mgu mhs mlv mba mgi mfi mle mst msu mtr mdi mfa mca) H → va_D A (wM cI cZ md mth msz mrn mmy mdf mgu mhs mlv mba mgi mfi mle mst msu mtr mdi mfa mca) → va_S A s.heap H locs → lv_has ls 4 [(0, .ref (md 0)), (1, .int p1), (2, .int v2_4), (3, .int v3_4)] → W p l e rm_X4_sumUp s m args below meth c H locs 0 0 Q (F0 m 4 ls []) := by
    intro nn
    induction nn with
    | zero => intro _ _ hf; exact nomatch (show (none : Option _) = some r from hf)
    | succ n4 ih4 =>
      intro v2_4 v3_4 hf H locs ls hP hD hS hl
      rw [f_X4_sumUp_L4.eq_2] at hf
      refine lv_iload_n hx hb dX4_sumUp_4 rfl (lv_at hl 3 rfl) ?_
      refine lv_aload_n hx hb dX4_sumUp_5 rfl (lv_at hl 0 rfl) ?_
      refine va_get (D := D) (ci := 4) (v := .ref (md 4)) (C := RX4) (T := TX4) (N := 18) hx hb hts hinX4 hown hK.1 hP 0 rfl rfl 6 (by decide) (hts (.fieldLink RX4 24 "GridpuzzleModel" "lengths" "[I") (by decide +kernel)) (fun _ h9 => h9) rfl dX4_sumUp_6 ?_
      refine lv_iload_n hx hb dX4_sumUp_9 rfl (lv_at hl 1 rfl) ?_
      obtain ⟨hz10, hf⟩ := gd_some hf
      refine va_iald hx hb hK.1 hP 4 0 rfl rfl hz10 dX4_sumUp_10 ?_
      refine lv_icmp_ge (tgt := 34) hx hb dX4_sumUp_11 (by decide) (fun c_11 => ?_) (fun c_11 => ?_)
      · have hf := ite_t c_11 hf
        refine lv_iload_n hx hb dX4_sumUp_34 rfl (lv_at hl 2 rfl) ?_
        cases hf
        exact hR _ _ _ _ _ _ rfl rfl hP hD hS dX4_sumUp_35
      · have hf := ite_f c_11 hf
        refine lv_iload_n hx hb dX4_sumUp_14 rfl (lv_at hl 2 rfl) ?_
        refine lv_aload_n hx hb dX4_sumUp_15 rfl (lv_at hl 0 rfl) ?_
        refine va_get (D := D) (ci := 4) (v := .ref (md 8)) (C := RX4) (T := TX4) (N := 18) hx hb hts hinX4 hown hK.1 hP 0 rfl rfl 11 (by decide) (hts (.fieldLink RX4 36 "GridpuzzleModel" "digits" "[I") (by decide +kernel)) (fun _ h9 => h9) rfl dX4_sumUp_16 ?_
        refine lv_aload_n hx hb dX4_sumUp_19 rfl (lv_at hl 0 rfl) ?_
        refine lv_iload_n hx hb dX4_sumUp_20 rfl (lv_at hl 1 rfl) ?_
        refine lv_iload_n hx hb dX4_sumUp_21 rfl (lv_at hl 3 rfl) ?_
        obtain ⟨x22, hy22, hf⟩ := Option.bind_eq_some_iff.mp hf
        refine clV_i (As := [.int p1, .int v3_4]) (rest := [.ref (md 8), .int v2_4]) (wM cI cZ md mth msz mrn mmy mdf mgu mhs mlv mba mgi mfi mle mst msu mtr mdi mfa mca) ⟨hx, hb, hml, hown, hts⟩ (K_X4_cellOf l D cI cZ md H.size mth msz mrn mmy mdf mgu mhs mlv mba mgi mfi mle mst msu mtr mdi mfa mca p1 v3_4 _ hy22) (cwV 2 hts gX4_sumUp_X4_cellOf rfl rfl rfl (by decide +kernel) ⟨Nat.le_of_ble_eq_true rfl, Nat.le_of_ble_eq_true rfl⟩) hK hP hD hS hA hl.1 [0, 1, 2, 3, 4, 5, 6, 7, 8, 9, 10] (by decide) rfl rfl rfl 4 0 rfl rfl rfl rfl rfl (Nat.le_of_ble_eq_true rfl) dX4_sumUp_22 ⟨Nat.le_of_ble_eq_true rfl, Nat.le_of_ble_eq_true rfl⟩ (fun H locs hP hD hS => ?_)
        obtain ⟨hz25, hf⟩ := gd_some hf
        refine va_iald hx hb hK.1 hP 8 0 rfl rfl hz25 dX4_sumUp_25 ?_
        refine lv_iadd hx hb dX4_sumUp_26 ?_
        refine lv_istore_n (lv' := [(2, .int (v2_4 + (mdi ((x22 : Int32)).toNatClampNeg))), (0, .ref (md 0)), (1, .int p1), (3, .int v3_4)]) hx hb dX4_sumUp_27 rfl hl (by decide) rfl (fun ls hl => ?_)
        refine lv_iinc (v := (v3_4 + 1)) (lv' := [(3, .int (v3_4 + 1)), (2, .int (v2_4 + (mdi ((x22 : Int32)).toNatClampNeg))), (0, .ref (md 0)), (1, .int p1)]) hx hb dX4_sumUp_28 hl (k := 3) rfl rfl (by decide) rfl (fun ls hl => ?_)
        refine lv_goto (tgt := 4) hx hb dX4_sumUp_31 (by decide) ?_
        exact ih4 (v2_4 + (mdi ((x22 : Int32)).toNatClampNeg)) (v3_4 + 1) hf _ _ _ hP hD hS (lv_sub hl [2, 3, 1, 0] rfl)
  exact l4 N 0 0 hf _ _ _ hP hD hS (lv_sub hl [2, 3, 1, 0] rfl)
def rm_X4_isAnswer : Room := { frames := 2, cells := 0, slots := 0, locals := 47 }
set_option maxRecDepth 100000 in
set_option maxHeartbeats 8000000 in
theorem K_X4_isAnswer (l : Launch) (D : va_G) (cI cZ : ClassId) (md : Nat → Nat) (sz : Nat) (N : Nat) (mth msz mrn mmy mdf mgu mhs mlv : Int32) (mba mgi mfi mle mst msu mtr mdi mfa mca : Nat → Int32) (r : (Int32)) (hf : f_X4_isAnswer N mrn mfi mle mst msu mdi = some r) : Met l yX4_isAnswer wsX4_isAnswer rm_X4_isAnswer (PC D cI cZ sz [.ref (md 0)] (wM cI cZ md mth msz mrn mmy mdf mgu mhs mlv mba mgi mfi mle mst msu mtr mdi mfa mca)) (QI D cI cZ sz (wM cI cZ md mth msz mrn mmy mdf mgu mhs mlv mba mgi mfi mle mst msu mtr mdi mfa mca) r (wM cI cZ md mth msz mrn mmy mdf mgu mhs mlv mba mgi mfi mle mst msu mtr mdi mfa mca)) 0 0 (va_A (wM cI cZ md mth msz mrn mmy mdf mgu mhs mlv mba mgi mfi mle mst msu mtr mdi mfa mca) sz) := by
  refine mk_z (cc := cX4_isAnswer) (maxL := 3) (lv0 := [(0, .ref (md 0))]) (by decide) rfl (Nat.le_of_ble_eq_true rfl) rfl ?_
  intro p e s m args below meth c ls A Q H hx hb hml hown hts hK hP hD hA hS hl hR
  have hinX4 : ∀ w ∈ wsX40, w ∈ wsX4_isAnswer := by decide +kernel
  rw [f_X4_isAnswer] at hf
  refine lv_iconst (v := 1) hx hb dX4_isAnswer_0 (by decide) ?_
  refine lv_istore_n (lv' := [(1, .int 1), (0, .ref (md 0))]) hx hb dX4_isAnswer_1 rfl hl (by decide) rfl (fun ls hl => ?_)
  refine lv_iconst (v := 0) hx hb dX4_isAnswer_2 (by decide) ?_
  refine lv_istore_n (lv' := [(2, .int 0), (1, .int 1), (0, .ref (md 0))]) hx hb dX4_isAnswer_3 rfl hl (by decide) rfl (fun ls hl => ?_)
  have l4 : ∀ (nn : Nat) (v1_4 : Int32) (v2_4 : Int32), f_X4_isAnswer_L4 N mrn mfi mle mst msu mdi nn v1_4 v2_4 = some r → ∀ (H : Heap) (locs : List Loc) (ls : Array Slot), va_P D vwCl (wM cI cZ md mth msz mrn mmy mdf mgu mhs mlv mba mgi mfi mle mst msu mtr mdi mfa mca) H → va_D A (wM cI cZ md mth msz mrn mmy mdf mgu mhs mlv mba mgi mfi mle mst msu mtr mdi mfa mca) → va_S A s.heap H locs → lv_has ls 3 [(0, .ref (md 0)), (1, .int v1_4), (2, .int v2_4)] → W p l e rm_X4_isAnswer s m args below meth c H locs 0 0 Q (F0 m 4 ls []) := by
    intro nn
    induction nn with
    | zero => intro _ _ hf; exact nomatch (show (none : Option _) = some r from hf)
    | succ n4 ih4 =>
      intro v1_4 v2_4 hf H locs ls hP hD hS hl
      rw [f_X4_isAnswer_L4.eq_2] at hf
      refine lv_iload_n hx hb dX4_isAnswer_4 rfl (lv_at hl 2 rfl) ?_
      refine lv_aload_n hx hb dX4_isAnswer_5 rfl (lv_at hl 0 rfl) ?_
      refine va_get (D := D) (ci := 4) (v := .int mrn) (C := RX4) (T := TX4) (N := 18) hx hb hts hinX4 hown hK.1 hP 0 rfl rfl 4 (by decide) (hts (.fieldLink RX4 59 "GridpuzzleModel" "runs" "I") (by decide +kernel)) (fun _ h9 => h9) rfl dX4_isAnswer_6 ?_
      refine lv_icmp_ge (tgt := 59) hx hb dX4_isAnswer_9 (by decide) (fun c_9 => ?_) (fun c_9 => ?_)
      · have hf := ite_t c_9 hf
        refine lv_iload_n hx hb dX4_isAnswer_59 rfl (lv_at hl 1 rfl) ?_
        obtain ⟨hz60, hf⟩ := gd_some hf
        cases hf
        exact hR _ _ _ _ _ _ hz60 rfl rfl hP hD hS dX4_isAnswer_60
      · have hf := ite_f c_9 hf
        refine lv_iload_n hx hb dX4_isAnswer_12 rfl (lv_at hl 1 rfl) ?_
        obtain ⟨k52, hk52, hf⟩ := jn_some hf
        have w52 : ∀ (t0_52 : Int32), k52 t0_52 = some r → ∀ (H : Heap) (locs : List Loc) (ls : Array Slot), va_P D vwCl (wM cI cZ md mth msz mrn mmy mdf mgu mhs mlv mba mgi mfi mle mst msu mtr mdi mfa mca) H → va_D A (wM cI cZ md mth msz mrn mmy mdf mgu mhs mlv mba mgi mfi mle mst msu mtr mdi mfa mca) → va_S A s.heap H locs → lv_has ls 3 [(0, .ref (md 0)), (2, .int v2_4)] → W p l e rm_X4_isAnswer s m args below meth c H locs 0 0 Q (F0 m 52 ls [.int t0_52]) := by
          intro t0_52 hf H locs ls hP hD hS hl
          rw [hk52] at hf
          try dsimp only at hf
          refine lv_istore_n (lv' := [(1, .int t0_52), (0, .ref (md 0)), (2, .int v2_4)]) hx hb dX4_isAnswer_52 rfl hl (by decide) rfl (fun ls hl => ?_)
          refine lv_iinc (v := (v2_4 + 1)) (lv' := [(2, .int (v2_4 + 1)), (1, .int t0_52), (0, .ref (md 0))]) hx hb dX4_isAnswer_53 hl (k := 2) rfl rfl (by decide) rfl (fun ls hl => ?_)
          refine lv_goto (tgt := 4) hx hb dX4_isAnswer_56 (by decide) ?_
          exact ih4 t0_52 (v2_4 + 1) hf _ _ _ hP hD hS (lv_sub hl [2, 1, 0] rfl)
        obtain ⟨k51, hk51, hf⟩ := jn_some hf
        have w51 : ∀ (_ : Unit), k51 () = some r → ∀ (H : Heap) (locs : List Loc) (ls : Array Slot), va_P D vwCl (wM cI cZ md mth msz mrn mmy mdf mgu mhs mlv mba mgi mfi mle mst msu mtr mdi mfa mca) H → va_D A (wM cI cZ md mth msz mrn mmy mdf mgu mhs mlv mba mgi mfi mle mst msu mtr mdi mfa mca) → va_S A s.heap H locs → lv_has ls 3 [(0, .ref (md 0)), (2, .int v2_4)] → W p l e rm_X4_isAnswer s m args below meth c H locs 0 0 Q (F0 m 51 ls []) := by
          intro _ hf H locs ls hP hD hS hl
          rw [hk51] at hf
          try dsimp only at hf
          refine lv_iconst (v := 0) hx hb dX4_isAnswer_51 (by decide) ?_
          exact w52 0 hf _ _ _ hP hD hS (lv_sub hl [0, 1] rfl)
        refine lv_if_eq (tgt := 51) hx hb dX4_isAnswer_13 (by decide) (fun c_13 => ?_) (fun c_13 => ?_)
        · have hf := ite_t c_13 hf
          exact w51 () hf _ _ _ hP hD hS (lv_sub hl [0, 2] rfl)
        · have hf := ite_f c_13 hf
          refine lv_aload_n hx hb dX4_isAnswer_16 rfl (lv_at hl 0 rfl) ?_
          refine lv_iload_n hx hb dX4_isAnswer_17 rfl (lv_at hl 2 rfl) ?_
          obtain ⟨x18, hy18, hf⟩ := Option.bind_eq_some_iff.mp hf
          refine clV_i (As := [.int v2_4]) (rest := []) (wM cI cZ md mth msz mrn mmy mdf mgu mhs mlv mba mgi mfi mle mst msu mtr mdi mfa mca) ⟨hx, hb, hml, hown, hts⟩ (K_X4_isUnlike l D cI cZ md H.size N mth msz mrn mmy mdf mgu mhs mlv mba mgi mfi mle mst msu mtr mdi mfa mca v2_4 _ hy18) (cwV 1 hts gX4_isAnswer_X4_isUnlike rfl rfl rfl (by decide +kernel) ⟨Nat.le_of_ble_eq_true rfl, Nat.le_of_ble_eq_true rfl⟩) hK hP hD hS hA hl.1 [0, 1, 2, 3, 4, 5, 6, 7, 8, 9, 10] (by decide) rfl rfl rfl 4 0 rfl rfl rfl rfl rfl (Nat.le_of_ble_eq_true rfl) dX4_isAnswer_18 ⟨Nat.le_of_ble_eq_true rfl, Nat.le_of_ble_eq_true rfl⟩ (fun H locs hP hD hS => ?_)
          refine lv_if_eq (tgt := 51) hx hb dX4_isAnswer_21 (by decide) (fun c_21 => ?_) (fun c_21 => ?_)
          · have hf := ite_t c_21 hf
            exact w51 () hf _ _ _ hP hD hS (lv_sub hl [0, 2] rfl)
          · have hf := ite_f c_21 hf
            refine lv_aload_n hx hb dX4_isAnswer_24 rfl (lv_at hl 0 rfl) ?_
            refine va_get (D := D) (ci := 4) (v := .ref (md 6)) (C := RX4) (T := TX4) (N := 18) hx hb hts hinX4 hown hK.1 hP 0 rfl rfl 8 (by decide) (hts (.fieldLink RX4 30 "GridpuzzleModel" "sums" "[I") (by decide +kernel)) (fun _ h9 => h9) rfl dX4_isAnswer_25 ?_
            refine lv_iload_n hx hb dX4_isAnswer_28 rfl (lv_at hl 2 rfl) ?_
            obtain ⟨hz29, hf⟩ := gd_some hf
            refine va_iald hx hb hK.1 hP 6 0 rfl rfl hz29 dX4_isAnswer_29 ?_
            obtain ⟨k47, hk47, hf⟩ := jn_some hf
            have w47 : ∀ (_ : Unit), k47 () = some r → ∀ (H : Heap) (locs : List Loc) (ls : Array Slot), va_P D vwCl (wM cI cZ md mth msz mrn mmy mdf mgu mhs mlv mba mgi mfi mle mst msu mtr mdi mfa mca) H → va_D A (wM cI cZ md mth msz mrn mmy mdf mgu mhs mlv mba mgi mfi mle mst msu mtr mdi mfa mca) → va_S A s.heap H locs → lv_has ls 3 [(0, .ref (md 0)), (2, .int v2_4)] → W p l e rm_X4_isAnswer s m args below meth c H locs 0 0 Q (F0 m 47 ls []) := by
              intro _ hf H locs ls hP hD hS hl
              rw [hk47] at hf
              try dsimp only at hf
              refine lv_iconst (v := 1) hx hb dX4_isAnswer_47 (by decide) ?_
              refine lv_goto (tgt := 52) hx hb dX4_isAnswer_48 (by decide) ?_
              exact w52 1 hf _ _ _ hP hD hS (lv_sub hl [0, 1] rfl)
            refine lv_if_eq (tgt := 47) hx hb dX4_isAnswer_30 (by decide) (fun c_30 => ?_) (fun c_30 => ?_)
            · have hf := ite_t c_30 hf
              exact w47 () hf _ _ _ hP hD hS (lv_sub hl [0, 2] rfl)
            · have hf := ite_f c_30 hf
              refine lv_aload_n hx hb dX4_isAnswer_33 rfl (lv_at hl 0 rfl) ?_
              refine lv_iload_n hx hb dX4_isAnswer_34 rfl (lv_at hl 2 rfl) ?_
              obtain ⟨x35, hy35, hf⟩ := Option.bind_eq_some_iff.mp hf
              refine clV_i (As := [.int v2_4]) (rest := []) (wM cI cZ md mth msz mrn mmy mdf mgu mhs mlv mba mgi mfi mle mst msu mtr mdi mfa mca) ⟨hx, hb, hml, hown, hts⟩ (K_X4_sumUp l D cI cZ md H.size N mth msz mrn mmy mdf mgu mhs mlv mba mgi mfi mle mst msu mtr mdi mfa mca v2_4 _ hy35) (cwV 1 hts gX4_isAnswer_X4_sumUp rfl rfl rfl (by decide +kernel) ⟨Nat.le_of_ble_eq_true rfl, Nat.le_of_ble_eq_true rfl⟩) hK hP hD hS hA hl.1 [0, 1, 2, 3, 4, 5, 6, 7, 8, 9, 10] (by decide) rfl rfl rfl 4 0 rfl rfl rfl rfl rfl (Nat.le_of_ble_eq_true rfl) dX4_isAnswer_35 ⟨Nat.le_of_ble_eq_true rfl, Nat.le_of_ble_eq_true rfl⟩ (fun H locs hP hD hS => ?_)
              refine lv_aload_n hx hb dX4_isAnswer_38 rfl (lv_at hl 0 rfl) ?_
              refine va_get (D := D) (ci := 4) (v := .ref (md 6)) (C := RX4) (T := TX4) (N := 18) hx hb hts hinX4 hown hK.1 hP 0 rfl rfl 8 (by decide) (hts (.fieldLink RX4 30 "GridpuzzleModel" "sums" "[I") (by decide +kernel)) (fun _ h9 => h9) rfl dX4_isAnswer_39 ?_
              refine lv_iload_n hx hb dX4_isAnswer_42 rfl (lv_at hl 2 rfl) ?_
              obtain ⟨hz43, hf⟩ := gd_some hf
              refine va_iald hx hb hK.1 hP 6 0 rfl rfl hz43 dX4_isAnswer_43 ?_
              refine lv_icmp_ne (tgt := 51) hx hb dX4_isAnswer_44 (by decide) (fun c_44 => ?_) (fun c_44 => ?_)
              · have hf := ite_f c_44 hf
                exact w51 () hf _ _ _ hP hD hS (lv_sub hl [0, 2] rfl)
              · have hf := ite_t c_44 hf
                exact w47 () hf _ _ _ hP hD hS (lv_sub hl [0, 2] rfl)
  exact l4 N 1 0 hf _ _ _ hP hD hS (lv_sub hl [2, 1, 0] rfl)
def rm_X4_press : Room := { frames := 3, cells := 0, slots := 0, locals := 64 }
set_option maxRecDepth 100000 in
set_option maxHeartbeats 8000000 in
theorem K_X4_press (l : Launch) (D : va_G) (cI cZ : ClassId) (md : Nat → Nat) (sz : Nat) (N : Nat) (mth msz mrn mmy mdf mgu mhs mlv : Int32) (mba mgi mfi mle mst msu mtr mdi mfa mca : Nat → Int32) (r : (Int32 × Int32 × (Nat → Int32) × (Nat → Int32) × (Nat → Int32))) (hf : f_X4_press N mth msz mrn mba mgi mfi mle mst msu mdi = some r) : Met l yX4_press wsX4_press rm_X4_press (PC D cI cZ sz [.ref (md 0)] (wM cI cZ md mth msz mrn mmy mdf mgu mhs mlv mba mgi mfi mle mst msu mtr mdi mfa mca)) (QI D cI cZ sz (wM cI cZ md mth msz mrn mmy mdf mgu mhs mlv mba mgi mfi mle mst msu mtr mdi mfa mca) r.1 (wM cI cZ md r.2.1 msz mrn mmy mdf mgu mhs mlv mba r.2.2.1 mfi mle mst r.2.2.2.1 mtr r.2.2.2.2 mfa mca)) 0 0 (va_A (wM cI cZ md mth msz mrn mmy mdf mgu mhs mlv mba mgi mfi mle mst msu mtr mdi mfa mca) sz) := by
  refine mk_i (cc := cX4_press) (maxL := 3) (lv0 := [(0, .ref (md 0))]) (by decide) rfl (Nat.le_of_ble_eq_true rfl) rfl ?_
  intro p e s m args below meth c ls A Q H hx hb hml hown hts hK hP hD hA hS hl hR
  have hinX4 : ∀ w ∈ wsX40, w ∈ wsX4_press := by decide +kernel
  rw [f_X4_press] at hf
  refine lv_aload_n hx hb dX4_press_0 rfl (lv_at hl 0 rfl) ?_
  obtain ⟨x1, hy1, hf⟩ := Option.bind_eq_some_iff.mp hf
  refine clV_v (As := []) (rest := []) (wM cI cZ md mth msz mrn mmy mdf mgu mhs mlv mba mgi mfi mle mst msu mtr x1 mfa mca) ⟨hx, hb, hml, hown, hts⟩ (K_X4_copyGiven l D cI cZ md H.size N mth msz mrn mmy mdf mgu mhs mlv mba mgi mfi mle mst msu mtr mdi mfa mca _ hy1) (cwV 0 hts gX4_press_X4_copyGiven rfl rfl rfl (by decide +kernel) ⟨Nat.le_of_ble_eq_true rfl, Nat.le_of_ble_eq_true rfl⟩) hK hP hD hS hA hl.1 [0, 1, 2, 3, 4, 5, 6, 7, 8, 9, 10] (by decide) rfl rfl rfl 4 0 rfl rfl rfl rfl rfl (Nat.le_of_ble_eq_true rfl) dX4_press_1 ⟨Nat.le_of_ble_eq_true rfl, Nat.le_of_ble_eq_true rfl⟩ (fun H locs hP hD hS => ?_)
  refine lv_iconst (v := 1) hx hb dX4_press_4 (by decide) ?_
  refine lv_istore_n (lv' := [(1, .int 1), (0, .ref (md 0))]) hx hb dX4_press_5 rfl hl (by decide) rfl (fun ls hl => ?_)
  refine lv_iconst (v := 0) hx hb dX4_press_6 (by decide) ?_
  refine lv_istore_n (lv' := [(2, .int 0), (1, .int 1), (0, .ref (md 0))]) hx hb dX4_press_7 rfl hl (by decide) rfl (fun ls hl => ?_)
  obtain ⟨k47, hk47, hf⟩ := jn_some hf
  have w47 : ∀ (v1_47 : Int32), k47 v1_47 = some r → ∀ (H : Heap) (locs : List Loc) (ls : Array Slot), va_P D vwCl (wM cI cZ md mth msz mrn mmy mdf mgu mhs mlv mba mgi mfi mle mst msu mtr x1 mfa mca) H → va_D A (wM cI cZ md mth msz mrn mmy mdf mgu mhs mlv mba mgi mfi mle mst msu mtr x1 mfa mca) → va_S A s.heap H locs → lv_has ls 3 [(0, .ref (md 0)), (1, .int v1_47)] → W p l e rm_X4_press s m args below meth c H locs 0 0 Q (F0 m 47 ls []) := by
    intro v1_47 hf H locs ls hP hD hS hl
    rw [hk47] at hf
    try dsimp only at hf
    refine lv_iconst (v := 0) hx hb dX4_press_47 (by decide) ?_
    refine lv_istore_n (lv' := [(2, .int 0), (0, .ref (md 0)), (1, .int v1_47)]) hx hb dX4_press_48 rfl hl (by decide) rfl (fun ls hl => ?_)
    obtain ⟨k81, hk81, hf⟩ := jn_some hf
    have w81 : ∀ (v1_81 : Int32), k81 v1_81 = some r → ∀ (H : Heap) (locs : List Loc) (ls : Array Slot), va_P D vwCl (wM cI cZ md mth msz mrn mmy mdf mgu mhs mlv mba mgi mfi mle mst msu mtr x1 mfa mca) H → va_D A (wM cI cZ md mth msz mrn mmy mdf mgu mhs mlv mba mgi mfi mle mst msu mtr x1 mfa mca) → va_S A s.heap H locs → lv_has ls 3 [(0, .ref (md 0)), (1, .int v1_81)] → W p l e rm_X4_press s m args below meth c H locs 0 0 Q (F0 m 81 ls []) := by
      intro v1_81 hf H locs ls hP hD hS hl
      rw [hk81] at hf
      try dsimp only at hf
      refine lv_aload_n hx hb dX4_press_81 rfl (lv_at hl 0 rfl) ?_
      refine lv_iload_n hx hb dX4_press_82 rfl (lv_at hl 1 rfl) ?_
      obtain ⟨k91, hk91, hf⟩ := jn_some hf
      have w91 : ∀ (t0_91 : Int32), k91 t0_91 = some r → ∀ (H : Heap) (locs : List Loc) (ls : Array Slot), va_P D vwCl (wM cI cZ md mth msz mrn mmy mdf mgu mhs mlv mba mgi mfi mle mst msu mtr x1 mfa mca) H → va_D A (wM cI cZ md mth msz mrn mmy mdf mgu mhs mlv mba mgi mfi mle mst msu mtr x1 mfa mca) → va_S A s.heap H locs → lv_has ls 3 [(0, .ref (md 0))] → W p l e rm_X4_press s m args below meth c H locs 0 0 Q (F0 m 91 ls [.int t0_91, .ref (md 0)]) := by
        intro t0_91 hf H locs ls hP hD hS hl
        rw [hk91] at hf
        try dsimp only at hf
        obtain ⟨x91, hy91, hf⟩ := jn_some hf
        refine clV_i (As := [.int t0_91]) (rest := []) (wM cI cZ md x91.2 msz mrn mmy mdf mgu mhs mlv mba mgi mfi mle mst msu mtr x1 mfa mca) ⟨hx, hb, hml, hown, hts⟩ (K_X4_goesWell l D cI cZ md H.size mth msz mrn mmy mdf mgu mhs mlv mba mgi mfi mle mst msu mtr x1 mfa mca t0_91 _ hy91.symm) (cwV 1 hts gX4_press_X4_goesWell rfl rfl rfl (by decide +kernel) ⟨Nat.le_of_ble_eq_true rfl, Nat.le_of_ble_eq_true rfl⟩) hK hP hD hS hA hl.1 [0, 1, 2, 3, 4, 5, 6, 7, 8, 9, 10] (by decide) rfl rfl rfl 4 0 rfl rfl rfl rfl rfl (Nat.le_of_ble_eq_true rfl) dX4_press_91 ⟨Nat.le_of_ble_eq_true rfl, Nat.le_of_ble_eq_true rfl⟩ (fun H locs hP hD hS => ?_)
        refine lv_if_ne (tgt := 99) hx hb dX4_press_94 (by decide) (fun c_94 => ?_) (fun c_94 => ?_)
        · have hf := ite_f c_94 hf
          refine lv_iconst (v := 0) hx hb dX4_press_99 (by decide) ?_
          refine lv_istore_n (lv' := [(2, .int 0), (0, .ref (md 0))]) hx hb dX4_press_100 rfl hl (by decide) rfl (fun ls hl => ?_)
          obtain ⟨k126, hk126, hf⟩ := jn_some hf
          have w126 : ∀ (msu_126 : Nat → Int32), k126 msu_126 = some r → ∀ (H : Heap) (locs : List Loc) (ls : Array Slot), va_P D vwCl (wM cI cZ md x91.2 msz mrn mmy mdf mgu mhs mlv mba mgi mfi mle mst msu_126 mtr x1 mfa mca) H → va_D A (wM cI cZ md x91.2 msz mrn mmy mdf mgu mhs mlv mba mgi mfi mle mst msu_126 mtr x1 mfa mca) → va_S A s.heap H locs → lv_has ls 3 [(0, .ref (md 0))] → W p l e rm_X4_press s m args below meth c H locs 0 0 Q (F0 m 126 ls []) := by
            intro msu_126 hf H locs ls hP hD hS hl
            rw [hk126] at hf
            try dsimp only at hf
            refine lv_iconst (v := 0) hx hb dX4_press_126 (by decide) ?_
            refine lv_istore_n (lv' := [(2, .int 0), (0, .ref (md 0))]) hx hb dX4_press_127 rfl hl (by decide) rfl (fun ls hl => ?_)
            have l128 : ∀ (nn : Nat) (v2_128 : Int32) (mgi_128 : Nat → Int32), f_X4_press_L128 x91.2 mrn msu_126 x1 nn v2_128 mgi_128 = some r → ∀ (H : Heap) (locs : List Loc) (ls : Array Slot), va_P D vwCl (wM cI cZ md x91.2 msz mrn mmy mdf mgu mhs mlv mba mgi_128 mfi mle mst msu_126 mtr x1 mfa mca) H → va_D A (wM cI cZ md x91.2 msz mrn mmy mdf mgu mhs mlv mba mgi_128 mfi mle mst msu_126 mtr x1 mfa mca) → va_S A s.heap H locs → lv_has ls 3 [(0, .ref (md 0)), (2, .int v2_128)] → W p l e rm_X4_press s m args below meth c H locs 0 0 Q (F0 m 128 ls []) := by
              intro nn
              induction nn with
              | zero => intro _ _ hf; exact nomatch (show (none : Option _) = some r from hf)
              | succ n128 ih128 =>
                intro v2_128 mgi_128 hf H locs ls hP hD hS hl
                rw [f_X4_press_L128.eq_2] at hf
                refine lv_iload_n hx hb dX4_press_128 rfl (lv_at hl 1 rfl) ?_
                refine lv_bipush (v := 16) hx hb dX4_press_129 (by decide) ?_
                refine lv_icmp_ge (tgt := 147) hx hb dX4_press_131 (by decide) (fun c_131 => ?_) (fun c_131 => ?_)
                · have hf := ite_t c_131 hf
                  refine lv_aload_n hx hb dX4_press_147 rfl (lv_at hl 0 rfl) ?_
                  refine va_get (D := D) (ci := 4) (v := .int mrn) (C := RX4) (T := TX4) (N := 18) hx hb hts hinX4 hown hK.1 hP 0 rfl rfl 4 (by decide) (hts (.fieldLink RX4 59 "GridpuzzleModel" "runs" "I") (by decide +kernel)) (fun _ h9 => h9) rfl dX4_press_148 ?_
                  cases hf
                  exact hR _ _ _ _ _ _ rfl rfl hP hD hS dX4_press_151
                · have hf := ite_f c_131 hf
                  refine lv_aload_n hx hb dX4_press_134 rfl (lv_at hl 0 rfl) ?_
                  refine va_get (D := D) (ci := 4) (v := .ref (md 2)) (C := RX4) (T := TX4) (N := 18) hx hb hts hinX4 hown hK.1 hP 0 rfl rfl 3 (by decide) (hts (.fieldLink RX4 17 "GridpuzzleModel" "given" "[I") (by decide +kernel)) (fun _ h9 => h9) rfl dX4_press_135 ?_
                  refine lv_iload_n hx hb dX4_press_138 rfl (lv_at hl 1 rfl) ?_
                  refine lv_iconst (v := 0) hx hb dX4_press_139 (by decide) ?_
                  obtain ⟨hz140, hf⟩ := gd_some hf
                  refine va_iast hx hb hK.1 hP hD hS 2 0 rfl rfl hz140 dX4_press_140 (fun H locs hP hD hS => ?_)
                  have hP : va_P D vwCl (wM cI cZ md x91.2 msz mrn mmy mdf mgu mhs mlv mba (upd mgi_128 ((v2_128 : Int32)).toNatClampNeg 0) mfi mle mst msu_126 mtr x1 mfa mca) H := hP
                  have hD : va_D A (wM cI cZ md x91.2 msz mrn mmy mdf mgu mhs mlv mba (upd mgi_128 ((v2_128 : Int32)).toNatClampNeg 0) mfi mle mst msu_126 mtr x1 mfa mca) := hD
                  refine lv_iinc (v := (v2_128 + 1)) (lv' := [(2, .int (v2_128 + 1)), (0, .ref (md 0))]) hx hb dX4_press_141 hl (k := 1) rfl rfl (by decide) rfl (fun ls hl => ?_)
                  refine lv_goto (tgt := 128) hx hb dX4_press_144 (by decide) ?_
                  exact ih128 (v2_128 + 1) (upd mgi_128 ((v2_128 : Int32)).toNatClampNeg 0) hf _ _ _ hP hD hS (lv_sub hl [1, 0] rfl)
            exact l128 N 0 mgi hf _ _ _ hP hD hS (lv_sub hl [1, 0] rfl)
          have l101 : ∀ (nn : Nat) (v2_101 : Int32) (msu_101 : Nat → Int32), f_X4_press_L101 N mrn mfi mle mst x1 k126 nn v2_101 msu_101 = some r → ∀ (H : Heap) (locs : List Loc) (ls : Array Slot), va_P D vwCl (wM cI cZ md x91.2 msz mrn mmy mdf mgu mhs mlv mba mgi mfi mle mst msu_101 mtr x1 mfa mca) H → va_D A (wM cI cZ md x91.2 msz mrn mmy mdf mgu mhs mlv mba mgi mfi mle mst msu_101 mtr x1 mfa mca) → va_S A s.heap H locs → lv_has ls 3 [(0, .ref (md 0)), (2, .int v2_101)] → W p l e rm_X4_press s m args below meth c H locs 0 0 Q (F0 m 101 ls []) := by
            intro nn
            induction nn with
            | zero => intro _ _ hf; exact nomatch (show (none : Option _) = some r from hf)
            | succ n101 ih101 =>
              intro v2_101 msu_101 hf H locs ls hP hD hS hl
              rw [f_X4_press_L101.eq_2] at hf
              refine lv_iload_n hx hb dX4_press_101 rfl (lv_at hl 1 rfl) ?_
              refine lv_aload_n hx hb dX4_press_102 rfl (lv_at hl 0 rfl) ?_
              refine va_get (D := D) (ci := 4) (v := .int mrn) (C := RX4) (T := TX4) (N := 18) hx hb hts hinX4 hown hK.1 hP 0 rfl rfl 4 (by decide) (hts (.fieldLink RX4 59 "GridpuzzleModel" "runs" "I") (by decide +kernel)) (fun _ h9 => h9) rfl dX4_press_103 ?_
              refine lv_icmp_ge (tgt := 126) hx hb dX4_press_106 (by decide) (fun c_106 => ?_) (fun c_106 => ?_)
              · have hf := ite_t c_106 hf
                exact w126 msu_101 hf _ _ _ hP hD hS (lv_sub hl [0] rfl)
              · have hf := ite_f c_106 hf
                refine lv_aload_n hx hb dX4_press_109 rfl (lv_at hl 0 rfl) ?_
                refine va_get (D := D) (ci := 4) (v := .ref (md 6)) (C := RX4) (T := TX4) (N := 18) hx hb hts hinX4 hown hK.1 hP 0 rfl rfl 8 (by decide) (hts (.fieldLink RX4 30 "GridpuzzleModel" "sums" "[I") (by decide +kernel)) (fun _ h9 => h9) rfl dX4_press_110 ?_
                refine lv_iload_n hx hb dX4_press_113 rfl (lv_at hl 1 rfl) ?_
                refine lv_aload_n hx hb dX4_press_114 rfl (lv_at hl 0 rfl) ?_
                refine lv_iload_n hx hb dX4_press_115 rfl (lv_at hl 1 rfl) ?_
                obtain ⟨x116, hy116, hf⟩ := Option.bind_eq_some_iff.mp hf
                refine clV_i (As := [.int v2_101]) (rest := [.int v2_101, .ref (md 6)]) (wM cI cZ md x91.2 msz mrn mmy mdf mgu mhs mlv mba mgi mfi mle mst msu_101 mtr x1 mfa mca) ⟨hx, hb, hml, hown, hts⟩ (K_X4_sumUp l D cI cZ md H.size N x91.2 msz mrn mmy mdf mgu mhs mlv mba mgi mfi mle mst msu_101 mtr x1 mfa mca v2_101 _ hy116) (cwV 1 hts gX4_press_X4_sumUp rfl rfl rfl (by decide +kernel) ⟨Nat.le_of_ble_eq_true rfl, Nat.le_of_ble_eq_true rfl⟩) hK hP hD hS hA hl.1 [0, 1, 2, 3, 4, 5, 6, 7, 8, 9, 10] (by decide) rfl rfl rfl 4 0 rfl rfl rfl rfl rfl (Nat.le_of_ble_eq_true rfl) dX4_press_116 ⟨Nat.le_of_ble_eq_true rfl, Nat.le_of_ble_eq_true rfl⟩ (fun H locs hP hD hS => ?_)
                obtain ⟨hz119, hf⟩ := gd_some hf
                refine va_iast hx hb hK.1 hP hD hS 6 0 rfl rfl hz119 dX4_press_119 (fun H locs hP hD hS => ?_)
                have hP : va_P D vwCl (wM cI cZ md x91.2 msz mrn mmy mdf mgu mhs mlv mba mgi mfi mle mst (upd msu_101 ((v2_101 : Int32)).toNatClampNeg x116) mtr x1 mfa mca) H := hP
                have hD : va_D A (wM cI cZ md x91.2 msz mrn mmy mdf mgu mhs mlv mba mgi mfi mle mst (upd msu_101 ((v2_101 : Int32)).toNatClampNeg x116) mtr x1 mfa mca) := hD
                refine lv_iinc (v := (v2_101 + 1)) (lv' := [(2, .int (v2_101 + 1)), (0, .ref (md 0))]) hx hb dX4_press_120 hl (k := 1) rfl rfl (by decide) rfl (fun ls hl => ?_)
                refine lv_goto (tgt := 101) hx hb dX4_press_123 (by decide) ?_
                exact ih101 (v2_101 + 1) (upd msu_101 ((v2_101 : Int32)).toNatClampNeg x116) hf _ _ _ hP hD hS (lv_sub hl [1, 0] rfl)
          exact l101 N 0 msu hf _ _ _ hP hD hS (lv_sub hl [1, 0] rfl)
        · have hf := ite_t c_94 hf
          refine lv_iconst (v := 0) hx hb dX4_press_97 (by decide) ?_
          cases hf
          exact hR _ _ _ _ _ _ rfl rfl hP hD hS dX4_press_98
      refine lv_if_eq (tgt := 90) hx hb dX4_press_83 (by decide) (fun c_83 => ?_) (fun c_83 => ?_)
      · have hf := ite_t c_83 hf
        refine lv_iconst (v := 1) hx hb dX4_press_90 (by decide) ?_
        exact w91 1 hf _ _ _ hP hD hS (lv_sub hl [0] rfl)
      · have hf := ite_f c_83 hf
        refine lv_iconst (v := 0) hx hb dX4_press_86 (by decide) ?_
        refine lv_goto (tgt := 91) hx hb dX4_press_87 (by decide) ?_
        exact w91 0 hf _ _ _ hP hD hS (lv_sub hl [0] rfl)
    have l49 : ∀ (nn : Nat) (v1_49 : Int32) (v2_49 : Int32), f_X4_press_L49 N mrn mfi mle mst x1 k81 nn v1_49 v2_49 = some r → ∀ (H : Heap) (locs : List Loc) (ls : Array Slot), va_P D vwCl (wM cI cZ md mth msz mrn mmy mdf mgu mhs mlv mba mgi mfi mle mst msu mtr x1 mfa mca) H → va_D A (wM cI cZ md mth msz mrn mmy mdf mgu mhs mlv mba mgi mfi mle mst msu mtr x1 mfa mca) → va_S A s.heap H locs → lv_has ls 3 [(0, .ref (md 0)), (1, .int v1_49), (2, .int v2_49)] → W p l e rm_X4_press s m args below meth c H locs 0 0 Q (F0 m 49 ls []) := by
      intro nn
      induction nn with
      | zero => intro _ _ hf; exact nomatch (show (none : Option _) = some r from hf)
      | succ n49 ih49 =>
        intro v1_49 v2_49 hf H locs ls hP hD hS hl
        rw [f_X4_press_L49.eq_2] at hf
        refine lv_iload_n hx hb dX4_press_49 rfl (lv_at hl 2 rfl) ?_
        refine lv_aload_n hx hb dX4_press_50 rfl (lv_at hl 0 rfl) ?_
        refine va_get (D := D) (ci := 4) (v := .int mrn) (C := RX4) (T := TX4) (N := 18) hx hb hts hinX4 hown hK.1 hP 0 rfl rfl 4 (by decide) (hts (.fieldLink RX4 59 "GridpuzzleModel" "runs" "I") (by decide +kernel)) (fun _ h9 => h9) rfl dX4_press_51 ?_
        refine lv_icmp_ge (tgt := 81) hx hb dX4_press_54 (by decide) (fun c_54 => ?_) (fun c_54 => ?_)
        · have hf := ite_t c_54 hf
          exact w81 v1_49 hf _ _ _ hP hD hS (lv_sub hl [0, 1] rfl)
        · have hf := ite_f c_54 hf
          refine lv_iload_n hx hb dX4_press_57 rfl (lv_at hl 1 rfl) ?_
          obtain ⟨k74, hk74, hf⟩ := jn_some hf
          have w74 : ∀ (t0_74 : Int32), k74 t0_74 = some r → ∀ (H : Heap) (locs : List Loc) (ls : Array Slot), va_P D vwCl (wM cI cZ md mth msz mrn mmy mdf mgu mhs mlv mba mgi mfi mle mst msu mtr x1 mfa mca) H → va_D A (wM cI cZ md mth msz mrn mmy mdf mgu mhs mlv mba mgi mfi mle mst msu mtr x1 mfa mca) → va_S A s.heap H locs → lv_has ls 3 [(0, .ref (md 0)), (2, .int v2_49)] → W p l e rm_X4_press s m args below meth c H locs 0 0 Q (F0 m 74 ls [.int t0_74]) := by
            intro t0_74 hf H locs ls hP hD hS hl
            rw [hk74] at hf
            try dsimp only at hf
            refine lv_istore_n (lv' := [(1, .int t0_74), (0, .ref (md 0)), (2, .int v2_49)]) hx hb dX4_press_74 rfl hl (by decide) rfl (fun ls hl => ?_)
            refine lv_iinc (v := (v2_49 + 1)) (lv' := [(2, .int (v2_49 + 1)), (1, .int t0_74), (0, .ref (md 0))]) hx hb dX4_press_75 hl (k := 2) rfl rfl (by decide) rfl (fun ls hl => ?_)
            refine lv_goto (tgt := 49) hx hb dX4_press_78 (by decide) ?_
            exact ih49 t0_74 (v2_49 + 1) hf _ _ _ hP hD hS (lv_sub hl [2, 1, 0] rfl)
          obtain ⟨k73, hk73, hf⟩ := jn_some hf
          have w73 : ∀ (_ : Unit), k73 () = some r → ∀ (H : Heap) (locs : List Loc) (ls : Array Slot), va_P D vwCl (wM cI cZ md mth msz mrn mmy mdf mgu mhs mlv mba mgi mfi mle mst msu mtr x1 mfa mca) H → va_D A (wM cI cZ md mth msz mrn mmy mdf mgu mhs mlv mba mgi mfi mle mst msu mtr x1 mfa mca) → va_S A s.heap H locs → lv_has ls 3 [(0, .ref (md 0)), (2, .int v2_49)] → W p l e rm_X4_press s m args below meth c H locs 0 0 Q (F0 m 73 ls []) := by
            intro _ hf H locs ls hP hD hS hl
            rw [hk73] at hf
            try dsimp only at hf
            refine lv_iconst (v := 0) hx hb dX4_press_73 (by decide) ?_
            exact w74 0 hf _ _ _ hP hD hS (lv_sub hl [0, 1] rfl)
          refine lv_if_eq (tgt := 73) hx hb dX4_press_58 (by decide) (fun c_58 => ?_) (fun c_58 => ?_)
          · have hf := ite_t c_58 hf
            exact w73 () hf _ _ _ hP hD hS (lv_sub hl [0, 2] rfl)
          · have hf := ite_f c_58 hf
            refine lv_aload_n hx hb dX4_press_61 rfl (lv_at hl 0 rfl) ?_
            refine lv_iload_n hx hb dX4_press_62 rfl (lv_at hl 2 rfl) ?_
            obtain ⟨x63, hy63, hf⟩ := Option.bind_eq_some_iff.mp hf
            refine clV_i (As := [.int v2_49]) (rest := []) (wM cI cZ md mth msz mrn mmy mdf mgu mhs mlv mba mgi mfi mle mst msu mtr x1 mfa mca) ⟨hx, hb, hml, hown, hts⟩ (K_X4_isUnlike l D cI cZ md H.size N mth msz mrn mmy mdf mgu mhs mlv mba mgi mfi mle mst msu mtr x1 mfa mca v2_49 _ hy63) (cwV 1 hts gX4_press_X4_isUnlike rfl rfl rfl (by decide +kernel) ⟨Nat.le_of_ble_eq_true rfl, Nat.le_of_ble_eq_true rfl⟩) hK hP hD hS hA hl.1 [0, 1, 2, 3, 4, 5, 6, 7, 8, 9, 10] (by decide) rfl rfl rfl 4 0 rfl rfl rfl rfl rfl (Nat.le_of_ble_eq_true rfl) dX4_press_63 ⟨Nat.le_of_ble_eq_true rfl, Nat.le_of_ble_eq_true rfl⟩ (fun H locs hP hD hS => ?_)
            refine lv_if_eq (tgt := 73) hx hb dX4_press_66 (by decide) (fun c_66 => ?_) (fun c_66 => ?_)
            · have hf := ite_t c_66 hf
              exact w73 () hf _ _ _ hP hD hS (lv_sub hl [0, 2] rfl)
            · have hf := ite_f c_66 hf
              refine lv_iconst (v := 1) hx hb dX4_press_69 (by decide) ?_
              refine lv_goto (tgt := 74) hx hb dX4_press_70 (by decide) ?_
              exact w74 1 hf _ _ _ hP hD hS (lv_sub hl [0, 2] rfl)
    exact l49 N v1_47 0 hf _ _ _ hP hD hS (lv_sub hl [1, 2, 0] rfl)
  have l8 : ∀ (nn : Nat) (v1_8 : Int32) (v2_8 : Int32), f_X4_press_L8 msz mba mgi k47 nn v1_8 v2_8 = some r → ∀ (H : Heap) (locs : List Loc) (ls : Array Slot), va_P D vwCl (wM cI cZ md mth msz mrn mmy mdf mgu mhs mlv mba mgi mfi mle mst msu mtr x1 mfa mca) H → va_D A (wM cI cZ md mth msz mrn mmy mdf mgu mhs mlv mba mgi mfi mle mst msu mtr x1 mfa mca) → va_S A s.heap H locs → lv_has ls 3 [(0, .ref (md 0)), (1, .int v1_8), (2, .int v2_8)] → W p l e rm_X4_press s m args below meth c H locs 0 0 Q (F0 m 8 ls []) := by
    intro nn
    induction nn with
    | zero => intro _ _ hf; exact nomatch (show (none : Option _) = some r from hf)
    | succ n8 ih8 =>
      intro v1_8 v2_8 hf H locs ls hP hD hS hl
      rw [f_X4_press_L8.eq_2] at hf
      refine lv_iload_n hx hb dX4_press_8 rfl (lv_at hl 2 rfl) ?_
      refine lv_bipush (v := 16) hx hb dX4_press_9 (by decide) ?_
      refine lv_icmp_ge (tgt := 47) hx hb dX4_press_11 (by decide) (fun c_11 => ?_) (fun c_11 => ?_)
      · have hf := ite_t c_11 hf
        exact w47 v1_8 hf _ _ _ hP hD hS (lv_sub hl [0, 1] rfl)
      · have hf := ite_f c_11 hf
        refine lv_iload_n hx hb dX4_press_14 rfl (lv_at hl 1 rfl) ?_
        obtain ⟨k40, hk40, hf⟩ := jn_some hf
        have w40 : ∀ (t0_40 : Int32), k40 t0_40 = some r → ∀ (H : Heap) (locs : List Loc) (ls : Array Slot), va_P D vwCl (wM cI cZ md mth msz mrn mmy mdf mgu mhs mlv mba mgi mfi mle mst msu mtr x1 mfa mca) H → va_D A (wM cI cZ md mth msz mrn mmy mdf mgu mhs mlv mba mgi mfi mle mst msu mtr x1 mfa mca) → va_S A s.heap H locs → lv_has ls 3 [(0, .ref (md 0)), (2, .int v2_8)] → W p l e rm_X4_press s m args below meth c H locs 0 0 Q (F0 m 40 ls [.int t0_40]) := by
          intro t0_40 hf H locs ls hP hD hS hl
          rw [hk40] at hf
          try dsimp only at hf
          refine lv_istore_n (lv' := [(1, .int t0_40), (0, .ref (md 0)), (2, .int v2_8)]) hx hb dX4_press_40 rfl hl (by decide) rfl (fun ls hl => ?_)
          refine lv_iinc (v := (v2_8 + 1)) (lv' := [(2, .int (v2_8 + 1)), (1, .int t0_40), (0, .ref (md 0))]) hx hb dX4_press_41 hl (k := 2) rfl rfl (by decide) rfl (fun ls hl => ?_)
          refine lv_goto (tgt := 8) hx hb dX4_press_44 (by decide) ?_
          exact ih8 t0_40 (v2_8 + 1) hf _ _ _ hP hD hS (lv_sub hl [2, 1, 0] rfl)
        obtain ⟨k39, hk39, hf⟩ := jn_some hf
        have w39 : ∀ (_ : Unit), k39 () = some r → ∀ (H : Heap) (locs : List Loc) (ls : Array Slot), va_P D vwCl (wM cI cZ md mth msz mrn mmy mdf mgu mhs mlv mba mgi mfi mle mst msu mtr x1 mfa mca) H → va_D A (wM cI cZ md mth msz mrn mmy mdf mgu mhs mlv mba mgi mfi mle mst msu mtr x1 mfa mca) → va_S A s.heap H locs → lv_has ls 3 [(0, .ref (md 0)), (2, .int v2_8)] → W p l e rm_X4_press s m args below meth c H locs 0 0 Q (F0 m 39 ls []) := by
          intro _ hf H locs ls hP hD hS hl
          rw [hk39] at hf
          try dsimp only at hf
          refine lv_iconst (v := 0) hx hb dX4_press_39 (by decide) ?_
          exact w40 0 hf _ _ _ hP hD hS (lv_sub hl [0, 1] rfl)
        refine lv_if_eq (tgt := 39) hx hb dX4_press_15 (by decide) (fun c_15 => ?_) (fun c_15 => ?_)
        · have hf := ite_t c_15 hf
          exact w39 () hf _ _ _ hP hD hS (lv_sub hl [0, 2] rfl)
        · have hf := ite_f c_15 hf
          refine lv_aload_n hx hb dX4_press_18 rfl (lv_at hl 0 rfl) ?_
          refine lv_iload_n hx hb dX4_press_19 rfl (lv_at hl 2 rfl) ?_
          obtain ⟨x20, hy20, hf⟩ := Option.bind_eq_some_iff.mp hf
          refine clV_i (As := [.int v2_8]) (rest := []) (wM cI cZ md mth msz mrn mmy mdf mgu mhs mlv mba mgi mfi mle mst msu mtr x1 mfa mca) ⟨hx, hb, hml, hown, hts⟩ (K_X4_isOpen l D cI cZ md H.size mth msz mrn mmy mdf mgu mhs mlv mba mgi mfi mle mst msu mtr x1 mfa mca v2_8 _ hy20) (cwV 1 hts gX4_press_X4_isOpen rfl rfl rfl (by decide +kernel) ⟨Nat.le_of_ble_eq_true rfl, Nat.le_of_ble_eq_true rfl⟩) hK hP hD hS hA hl.1 [0, 1, 2, 3, 4, 5, 6, 7, 8, 9, 10] (by decide) rfl rfl rfl 4 0 rfl rfl rfl rfl rfl (Nat.le_of_ble_eq_true rfl) dX4_press_20 ⟨Nat.le_of_ble_eq_true rfl, Nat.le_of_ble_eq_true rfl⟩ (fun H locs hP hD hS => ?_)
          obtain ⟨k35, hk35, hf⟩ := jn_some hf
          have w35 : ∀ (_ : Unit), k35 () = some r → ∀ (H : Heap) (locs : List Loc) (ls : Array Slot), va_P D vwCl (wM cI cZ md mth msz mrn mmy mdf mgu mhs mlv mba mgi mfi mle mst msu mtr x1 mfa mca) H → va_D A (wM cI cZ md mth msz mrn mmy mdf mgu mhs mlv mba mgi mfi mle mst msu mtr x1 mfa mca) → va_S A s.heap H locs → lv_has ls 3 [(0, .ref (md 0)), (2, .int v2_8)] → W p l e rm_X4_press s m args below meth c H locs 0 0 Q (F0 m 35 ls []) := by
            intro _ hf H locs ls hP hD hS hl
            rw [hk35] at hf
            try dsimp only at hf
            refine lv_iconst (v := 1) hx hb dX4_press_35 (by decide) ?_
            refine lv_goto (tgt := 40) hx hb dX4_press_36 (by decide) ?_
            exact w40 1 hf _ _ _ hP hD hS (lv_sub hl [0, 1] rfl)
          refine lv_if_eq (tgt := 35) hx hb dX4_press_23 (by decide) (fun c_23 => ?_) (fun c_23 => ?_)
          · have hf := ite_t c_23 hf
            exact w35 () hf _ _ _ hP hD hS (lv_sub hl [0, 2] rfl)
          · have hf := ite_f c_23 hf
            refine lv_aload_n hx hb dX4_press_26 rfl (lv_at hl 0 rfl) ?_
            refine va_get (D := D) (ci := 4) (v := .ref (md 2)) (C := RX4) (T := TX4) (N := 18) hx hb hts hinX4 hown hK.1 hP 0 rfl rfl 3 (by decide) (hts (.fieldLink RX4 17 "GridpuzzleModel" "given" "[I") (by decide +kernel)) (fun _ h9 => h9) rfl dX4_press_27 ?_
            refine lv_iload_n hx hb dX4_press_30 rfl (lv_at hl 2 rfl) ?_
            obtain ⟨hz31, hf⟩ := gd_some hf
            refine va_iald hx hb hK.1 hP 2 0 rfl rfl hz31 dX4_press_31 ?_
            refine lv_if_le (tgt := 39) hx hb dX4_press_32 (by decide) (fun c_32 => ?_) (fun c_32 => ?_)
            · have hf := ite_t c_32 hf
              exact w39 () hf _ _ _ hP hD hS (lv_sub hl [0, 2] rfl)
            · have hf := ite_f c_32 hf
              exact w35 () hf _ _ _ hP hD hS (lv_sub hl [0, 2] rfl)
  exact l8 N 1 0 hf _ _ _ hP hD hS (lv_sub hl [2, 1, 0] rfl)
def rm_X4_open : Room := { frames := 4, cells := 0, slots := 0, locals := 86 }
set_option maxRecDepth 100000 in
set_option maxHeartbeats 8000000 in
theorem K_X4_open (l : Launch) (D : va_G) (cI cZ : ClassId) (md : Nat → Nat) (sz : Nat) (N : Nat) (mth msz mrn mmy mdf mgu mhs mlv : Int32) (mba mgi mfi mle mst msu mtr mdi mfa mca : Nat → Int32) (r : (Int32 × Int32)) (hf : f_X4_open N mth msz mba = some r) : Met l yX4_open wsX4_open rm_X4_open (PC D cI cZ sz [.ref (md 0)] (wM cI cZ md mth msz mrn mmy mdf mgu mhs mlv mba mgi mfi mle mst msu mtr mdi mfa mca)) (QI D cI cZ sz (wM cI cZ md mth msz mrn mmy mdf mgu mhs mlv mba mgi mfi mle mst msu mtr mdi mfa mca) r.1 (wM cI cZ md r.2 msz mrn mmy mdf mgu mhs mlv mba mgi mfi mle mst msu mtr mdi mfa mca)) 0 0 (va_A (wM cI cZ md mth msz mrn mmy mdf mgu mhs mlv mba mgi mfi mle mst msu mtr mdi mfa mca) sz) := by
  refine mk_i (cc := cX4_open) (maxL := 1) (lv0 := [(0, .ref (md 0))]) (by decide) rfl (Nat.le_of_ble_eq_true rfl) rfl ?_
  intro p e s m args below meth c ls A Q H hx hb hml hown hts hK hP hD hA hS hl hR
  have hinX4 : ∀ w ∈ wsX40, w ∈ wsX4_open := by decide +kernel
  rw [f_X4_open] at hf
  refine lv_aload_n hx hb dX4_open_0 rfl (lv_at hl 0 rfl) ?_
  refine lv_iconst (v := 0) hx hb dX4_open_1 (by decide) ?_
  refine va_put (D := D) (ci := 4) (v := .int 0) (ty := .int) (C := RX4) (T := TX4) (N := 18) hx hb hts hinX4 tyX4 tyX4_ok nmX4 hown hK.1 hP hD hS 0 rfl rfl 0 (by decide) (hts (.fieldLink RX4 48 "GridpuzzleModel" "thrown" "I") (by decide +kernel)) (fun _ h9 => h9) rfl (by decide +kernel) rfl rfl (Nat.le_of_ble_eq_true rfl) dX4_open_2 (fun H locs hP hD hS => ?_)
  have hP : va_P D vwCl (wM cI cZ md 0 msz mrn mmy mdf mgu mhs mlv mba mgi mfi mle mst msu mtr mdi mfa mca) H := hP
  have hD : va_D A (wM cI cZ md 0 msz mrn mmy mdf mgu mhs mlv mba mgi mfi mle mst msu mtr mdi mfa mca) := hD
  refine lv_aload_n hx hb dX4_open_5 rfl (lv_at hl 0 rfl) ?_
  obtain ⟨x6, hy6, hf⟩ := Option.bind_eq_some_iff.mp hf
  refine clV_i (As := []) (rest := []) (wM cI cZ md 0 msz mrn mmy mdf mgu mhs mlv mba mgi mfi mle mst msu mtr mdi mfa mca) ⟨hx, hb, hml, hown, hts⟩ (K_X4_countOpen l D cI cZ md H.size N 0 msz mrn mmy mdf mgu mhs mlv mba mgi mfi mle mst msu mtr mdi mfa mca _ hy6) (cwV 0 hts gX4_open_X4_countOpen rfl rfl rfl (by decide +kernel) ⟨Nat.le_of_ble_eq_true rfl, Nat.le_of_ble_eq_true rfl⟩) hK hP hD hS hA hl.1 [0, 1, 2, 3, 4, 5, 6, 7, 8, 9, 10] (by decide) rfl rfl rfl 4 0 rfl rfl rfl rfl rfl (Nat.le_of_ble_eq_true rfl) dX4_open_6 ⟨Nat.le_of_ble_eq_true rfl, Nat.le_of_ble_eq_true rfl⟩ (fun H locs hP hD hS => ?_)
  cases hf
  exact hR _ _ _ _ _ _ rfl rfl hP hD hS dX4_open_9
def rm_X4_runs : Room := { frames := 0, cells := 0, slots := 0, locals := 0 }
set_option maxRecDepth 100000 in
set_option maxHeartbeats 8000000 in
theorem K_X4_runs (l : Launch) (D : va_G) (cI cZ : ClassId) (md : Nat → Nat) (sz : Nat) (mth msz mrn mmy mdf mgu mhs mlv : Int32) (mba mgi mfi mle mst msu mtr mdi mfa mca : Nat → Int32) (r : (Int32 × Int32)) (hf : f_X4_runs mth mrn = r) : Met l yX4_runs wsX4_runs rm_X4_runs (PC D cI cZ sz [.ref (md 0)] (wM cI cZ md mth msz mrn mmy mdf mgu mhs mlv mba mgi mfi mle mst msu mtr mdi mfa mca)) (QI D cI cZ sz (wM cI cZ md mth msz mrn mmy mdf mgu mhs mlv mba mgi mfi mle mst msu mtr mdi mfa mca) r.1 (wM cI cZ md r.2 msz mrn mmy mdf mgu mhs mlv mba mgi mfi mle mst msu mtr mdi mfa mca)) 0 0 (va_A (wM cI cZ md mth msz mrn mmy mdf mgu mhs mlv mba mgi mfi mle mst msu mtr mdi mfa mca) sz) := by
  refine mk_i (cc := cX4_runs) (maxL := 1) (lv0 := [(0, .ref (md 0))]) (by decide) rfl (Nat.le_of_ble_eq_true rfl) rfl ?_
  intro p e s m args below meth c ls A Q H hx hb hml hown hts hK hP hD hA hS hl hR
  have hinX4 : ∀ w ∈ wsX40, w ∈ wsX4_runs := by decide +kernel
  rw [f_X4_runs] at hf
  refine lv_aload_n hx hb dX4_runs_0 rfl (lv_at hl 0 rfl) ?_
  refine lv_iconst (v := 0) hx hb dX4_runs_1 (by decide) ?_
  refine va_put (D := D) (ci := 4) (v := .int 0) (ty := .int) (C := RX4) (T := TX4) (N := 18) hx hb hts hinX4 tyX4 tyX4_ok nmX4 hown hK.1 hP hD hS 0 rfl rfl 0 (by decide) (hts (.fieldLink RX4 48 "GridpuzzleModel" "thrown" "I") (by decide +kernel)) (fun _ h9 => h9) rfl (by decide +kernel) rfl rfl (Nat.le_of_ble_eq_true rfl) dX4_runs_2 (fun H locs hP hD hS => ?_)
  have hP : va_P D vwCl (wM cI cZ md 0 msz mrn mmy mdf mgu mhs mlv mba mgi mfi mle mst msu mtr mdi mfa mca) H := hP
  have hD : va_D A (wM cI cZ md 0 msz mrn mmy mdf mgu mhs mlv mba mgi mfi mle mst msu mtr mdi mfa mca) := hD
  refine lv_aload_n hx hb dX4_runs_5 rfl (lv_at hl 0 rfl) ?_
  refine va_get (D := D) (ci := 4) (v := .int mrn) (C := RX4) (T := TX4) (N := 18) hx hb hts hinX4 hown hK.1 hP 0 rfl rfl 4 (by decide) (hts (.fieldLink RX4 59 "GridpuzzleModel" "runs" "I") (by decide +kernel)) (fun _ h9 => h9) rfl dX4_runs_6 ?_
  cases hf
  exact hR _ _ _ _ _ _ rfl rfl hP hD hS dX4_runs_9
def rm_X4_firstOf : Room := { frames := 2, cells := 0, slots := 0, locals := 43 }
set_option maxRecDepth 100000 in
set_option maxHeartbeats 8000000 in
theorem K_X4_firstOf (l : Launch) (D : va_G) (cI cZ : ClassId) (md : Nat → Nat) (sz : Nat) (mth msz mrn mmy mdf mgu mhs mlv : Int32) (mba mgi mfi mle mst msu mtr mdi mfa mca : Nat → Int32) (p1 : Int32) (r : (Int32 × Int32)) (hf : f_X4_firstOf mth mrn mfi p1 = some r) : Met l yX4_firstOf wsX4_firstOf rm_X4_firstOf (PC D cI cZ sz [.ref (md 0), .int p1] (wM cI cZ md mth msz mrn mmy mdf mgu mhs mlv mba mgi mfi mle mst msu mtr mdi mfa mca)) (QI D cI cZ sz (wM cI cZ md mth msz mrn mmy mdf mgu mhs mlv mba mgi mfi mle mst msu mtr mdi mfa mca) r.1 (wM cI cZ md r.2 msz mrn mmy mdf mgu mhs mlv mba mgi mfi mle mst msu mtr mdi mfa mca)) 0 0 (va_A (wM cI cZ md mth msz mrn mmy mdf mgu mhs mlv mba mgi mfi mle mst msu mtr mdi mfa mca) sz) := by
  refine mk_i (cc := cX4_firstOf) (maxL := 2) (lv0 := [(0, .ref (md 0)), (1, .int p1)]) (by decide) rfl (Nat.le_of_ble_eq_true rfl) rfl ?_
  intro p e s m args below meth c ls A Q H hx hb hml hown hts hK hP hD hA hS hl hR
  have hinX4 : ∀ w ∈ wsX40, w ∈ wsX4_firstOf := by decide +kernel
  rw [f_X4_firstOf] at hf
  refine lv_aload_n hx hb dX4_firstOf_0 rfl (lv_at hl 0 rfl) ?_
  refine lv_aload_n hx hb dX4_firstOf_1 rfl (lv_at hl 0 rfl) ?_
  refine lv_iload_n hx hb dX4_firstOf_2 rfl (lv_at hl 1 rfl) ?_
  obtain ⟨x3, hy3, hf⟩ := Option.bind_eq_some_iff.mp hf
  refine clV_i (As := [.int p1]) (rest := [.ref (md 0)]) (wM cI cZ md mth msz mrn mmy mdf mgu mhs mlv mba mgi mfi mle mst msu mtr mdi mfa mca) ⟨hx, hb, hml, hown, hts⟩ (K_X4_isRun l D cI cZ md H.size mth msz mrn mmy mdf mgu mhs mlv mba mgi mfi mle mst msu mtr mdi mfa mca p1 _ hy3) (cwV 1 hts gX4_firstOf_X4_isRun rfl rfl rfl (by decide +kernel) ⟨Nat.le_of_ble_eq_true rfl, Nat.le_of_ble_eq_true rfl⟩) hK hP hD hS hA hl.1 [0, 1, 2, 3, 4, 5, 6, 7, 8, 9, 10] (by decide) rfl rfl rfl 4 0 rfl rfl rfl rfl rfl (Nat.le_of_ble_eq_true rfl) dX4_firstOf_3 ⟨Nat.le_of_ble_eq_true rfl, Nat.le_of_ble_eq_true rfl⟩ (fun H locs hP hD hS => ?_)
  obtain ⟨k14, hk14, hf⟩ := jn_some hf
  have w14 : ∀ (t0_14 : Int32), k14 t0_14 = some r → ∀ (H : Heap) (locs : List Loc) (ls : Array Slot), va_P D vwCl (wM cI cZ md mth msz mrn mmy mdf mgu mhs mlv mba mgi mfi mle mst msu mtr mdi mfa mca) H → va_D A (wM cI cZ md mth msz mrn mmy mdf mgu mhs mlv mba mgi mfi mle mst msu mtr mdi mfa mca) → va_S A s.heap H locs → lv_has ls 2 [(0, .ref (md 0)), (1, .int p1)] → W p l e rm_X4_firstOf s m args below meth c H locs 0 0 Q (F0 m 14 ls [.int t0_14, .ref (md 0)]) := by
    intro t0_14 hf H locs ls hP hD hS hl
    rw [hk14] at hf
    try dsimp only at hf
    obtain ⟨x14, hy14, hf⟩ := jn_some hf
    refine clV_i (As := [.int t0_14]) (rest := []) (wM cI cZ md x14.2 msz mrn mmy mdf mgu mhs mlv mba mgi mfi mle mst msu mtr mdi mfa mca) ⟨hx, hb, hml, hown, hts⟩ (K_X4_goesWell l D cI cZ md H.size mth msz mrn mmy mdf mgu mhs mlv mba mgi mfi mle mst msu mtr mdi mfa mca t0_14 _ hy14.symm) (cwV 1 hts gX4_firstOf_X4_goesWell rfl rfl rfl (by decide +kernel) ⟨Nat.le_of_ble_eq_true rfl, Nat.le_of_ble_eq_true rfl⟩) hK hP hD hS hA hl.1 [0, 1, 2, 3, 4, 5, 6, 7, 8, 9, 10] (by decide) rfl rfl rfl 4 0 rfl rfl rfl rfl rfl (Nat.le_of_ble_eq_true rfl) dX4_firstOf_14 ⟨Nat.le_of_ble_eq_true rfl, Nat.le_of_ble_eq_true rfl⟩ (fun H locs hP hD hS => ?_)
    refine lv_if_eq (tgt := 29) hx hb dX4_firstOf_17 (by decide) (fun c_17 => ?_) (fun c_17 => ?_)
    · have hf := ite_t c_17 hf
      refine lv_iconst (v := 0) hx hb dX4_firstOf_29 (by decide) ?_
      cases hf
      exact hR _ _ _ _ _ _ rfl rfl hP hD hS dX4_firstOf_30
    · have hf := ite_f c_17 hf
      refine lv_aload_n hx hb dX4_firstOf_20 rfl (lv_at hl 0 rfl) ?_
      refine va_get (D := D) (ci := 4) (v := .ref (md 3)) (C := RX4) (T := TX4) (N := 18) hx hb hts hinX4 hown hK.1 hP 0 rfl rfl 5 (by decide) (hts (.fieldLink RX4 21 "GridpuzzleModel" "firsts" "[I") (by decide +kernel)) (fun _ h9 => h9) rfl dX4_firstOf_21 ?_
      refine lv_iload_n hx hb dX4_firstOf_24 rfl (lv_at hl 1 rfl) ?_
      obtain ⟨hz25, hf⟩ := gd_some hf
      refine va_iald hx hb hK.1 hP 3 0 rfl rfl hz25 dX4_firstOf_25 ?_
      refine lv_goto (tgt := 30) hx hb dX4_firstOf_26 (by decide) ?_
      cases hf
      exact hR _ _ _ _ _ _ rfl rfl hP hD hS dX4_firstOf_30
  refine lv_if_eq (tgt := 13) hx hb dX4_firstOf_6 (by decide) (fun c_6 => ?_) (fun c_6 => ?_)
  · have hf := ite_t c_6 hf
    refine lv_iconst (v := 1) hx hb dX4_firstOf_13 (by decide) ?_
    exact w14 1 hf _ _ _ hP hD hS (lv_sub hl [0, 1] rfl)
  · have hf := ite_f c_6 hf
    refine lv_iconst (v := 0) hx hb dX4_firstOf_9 (by decide) ?_
    refine lv_goto (tgt := 14) hx hb dX4_firstOf_10 (by decide) ?_
    exact w14 0 hf _ _ _ hP hD hS (lv_sub hl [0, 1] rfl)
def rm_X4_lengthOf : Room := { frames := 2, cells := 0, slots := 0, locals := 43 }
set_option maxRecDepth 100000 in
set_option maxHeartbeats 8000000 in
theorem K_X4_lengthOf (l : Launch) (D : va_G) (cI cZ : ClassId) (md : Nat → Nat) (sz : Nat) (mth msz mrn mmy mdf mgu mhs mlv : Int32) (mba mgi mfi mle mst msu mtr mdi mfa mca : Nat → Int32) (p1 : Int32) (r : (Int32 × Int32)) (hf : f_X4_lengthOf mth mrn mle p1 = some r) : Met l yX4_lengthOf wsX4_lengthOf rm_X4_lengthOf (PC D cI cZ sz [.ref (md 0), .int p1] (wM cI cZ md mth msz mrn mmy mdf mgu mhs mlv mba mgi mfi mle mst msu mtr mdi mfa mca)) (QI D cI cZ sz (wM cI cZ md mth msz mrn mmy mdf mgu mhs mlv mba mgi mfi mle mst msu mtr mdi mfa mca) r.1 (wM cI cZ md r.2 msz mrn mmy mdf mgu mhs mlv mba mgi mfi mle mst msu mtr mdi mfa mca)) 0 0 (va_A (wM cI cZ md mth msz mrn mmy mdf mgu mhs mlv mba mgi mfi mle mst msu mtr mdi mfa mca) sz) := by
  refine mk_i (cc := cX4_lengthOf) (maxL := 2) (lv0 := [(0, .ref (md 0)), (1, .int p1)]) (by decide) rfl (Nat.le_of_ble_eq_true rfl) rfl ?_
  intro p e s m args below meth c ls A Q H hx hb hml hown hts hK hP hD hA hS hl hR
  have hinX4 : ∀ w ∈ wsX40, w ∈ wsX4_lengthOf := by decide +kernel
  rw [f_X4_lengthOf] at hf
  refine lv_aload_n hx hb dX4_lengthOf_0 rfl (lv_at hl 0 rfl) ?_
  refine lv_aload_n hx hb dX4_lengthOf_1 rfl (lv_at hl 0 rfl) ?_
  refine lv_iload_n hx hb dX4_lengthOf_2 rfl (lv_at hl 1 rfl) ?_
  obtain ⟨x3, hy3, hf⟩ := Option.bind_eq_some_iff.mp hf
  refine clV_i (As := [.int p1]) (rest := [.ref (md 0)]) (wM cI cZ md mth msz mrn mmy mdf mgu mhs mlv mba mgi mfi mle mst msu mtr mdi mfa mca) ⟨hx, hb, hml, hown, hts⟩ (K_X4_isRun l D cI cZ md H.size mth msz mrn mmy mdf mgu mhs mlv mba mgi mfi mle mst msu mtr mdi mfa mca p1 _ hy3) (cwV 1 hts gX4_lengthOf_X4_isRun rfl rfl rfl (by decide +kernel) ⟨Nat.le_of_ble_eq_true rfl, Nat.le_of_ble_eq_true rfl⟩) hK hP hD hS hA hl.1 [0, 1, 2, 3, 4, 5, 6, 7, 8, 9, 10] (by decide) rfl rfl rfl 4 0 rfl rfl rfl rfl rfl (Nat.le_of_ble_eq_true rfl) dX4_lengthOf_3 ⟨Nat.le_of_ble_eq_true rfl, Nat.le_of_ble_eq_true rfl⟩ (fun H locs hP hD hS => ?_)
  obtain ⟨k14, hk14, hf⟩ := jn_some hf
  have w14 : ∀ (t0_14 : Int32), k14 t0_14 = some r → ∀ (H : Heap) (locs : List Loc) (ls : Array Slot), va_P D vwCl (wM cI cZ md mth msz mrn mmy mdf mgu mhs mlv mba mgi mfi mle mst msu mtr mdi mfa mca) H → va_D A (wM cI cZ md mth msz mrn mmy mdf mgu mhs mlv mba mgi mfi mle mst msu mtr mdi mfa mca) → va_S A s.heap H locs → lv_has ls 2 [(0, .ref (md 0)), (1, .int p1)] → W p l e rm_X4_lengthOf s m args below meth c H locs 0 0 Q (F0 m 14 ls [.int t0_14, .ref (md 0)]) := by
    intro t0_14 hf H locs ls hP hD hS hl
    rw [hk14] at hf
    try dsimp only at hf
    obtain ⟨x14, hy14, hf⟩ := jn_some hf
    refine clV_i (As := [.int t0_14]) (rest := []) (wM cI cZ md x14.2 msz mrn mmy mdf mgu mhs mlv mba mgi mfi mle mst msu mtr mdi mfa mca) ⟨hx, hb, hml, hown, hts⟩ (K_X4_goesWell l D cI cZ md H.size mth msz mrn mmy mdf mgu mhs mlv mba mgi mfi mle mst msu mtr mdi mfa mca t0_14 _ hy14.symm) (cwV 1 hts gX4_lengthOf_X4_goesWell rfl rfl rfl (by decide +kernel) ⟨Nat.le_of_ble_eq_true rfl, Nat.le_of_ble_eq_true rfl⟩) hK hP hD hS hA hl.1 [0, 1, 2, 3, 4, 5, 6, 7, 8, 9, 10] (by decide) rfl rfl rfl 4 0 rfl rfl rfl rfl rfl (Nat.le_of_ble_eq_true rfl) dX4_lengthOf_14 ⟨Nat.le_of_ble_eq_true rfl, Nat.le_of_ble_eq_true rfl⟩ (fun H locs hP hD hS => ?_)
    refine lv_if_eq (tgt := 29) hx hb dX4_lengthOf_17 (by decide) (fun c_17 => ?_) (fun c_17 => ?_)
    · have hf := ite_t c_17 hf
      refine lv_iconst (v := 0) hx hb dX4_lengthOf_29 (by decide) ?_
      cases hf
      exact hR _ _ _ _ _ _ rfl rfl hP hD hS dX4_lengthOf_30
    · have hf := ite_f c_17 hf
      refine lv_aload_n hx hb dX4_lengthOf_20 rfl (lv_at hl 0 rfl) ?_
      refine va_get (D := D) (ci := 4) (v := .ref (md 4)) (C := RX4) (T := TX4) (N := 18) hx hb hts hinX4 hown hK.1 hP 0 rfl rfl 6 (by decide) (hts (.fieldLink RX4 24 "GridpuzzleModel" "lengths" "[I") (by decide +kernel)) (fun _ h9 => h9) rfl dX4_lengthOf_21 ?_
      refine lv_iload_n hx hb dX4_lengthOf_24 rfl (lv_at hl 1 rfl) ?_
      obtain ⟨hz25, hf⟩ := gd_some hf
      refine va_iald hx hb hK.1 hP 4 0 rfl rfl hz25 dX4_lengthOf_25 ?_
      refine lv_goto (tgt := 30) hx hb dX4_lengthOf_26 (by decide) ?_
      cases hf
      exact hR _ _ _ _ _ _ rfl rfl hP hD hS dX4_lengthOf_30
  refine lv_if_eq (tgt := 13) hx hb dX4_lengthOf_6 (by decide) (fun c_6 => ?_) (fun c_6 => ?_)
  · have hf := ite_t c_6 hf
    refine lv_iconst (v := 1) hx hb dX4_lengthOf_13 (by decide) ?_
    exact w14 1 hf _ _ _ hP hD hS (lv_sub hl [0, 1] rfl)
  · have hf := ite_f c_6 hf
    refine lv_iconst (v := 0) hx hb dX4_lengthOf_9 (by decide) ?_
    refine lv_goto (tgt := 14) hx hb dX4_lengthOf_10 (by decide) ?_
    exact w14 0 hf _ _ _ hP hD hS (lv_sub hl [0, 1] rfl)
def rm_X4_sumOf : Room := { frames := 2, cells := 0, slots := 0, locals := 43 }
set_option maxRecDepth 100000 in
set_option maxHeartbeats 8000000 in
theorem K_X4_sumOf (l : Launch) (D : va_G) (cI cZ : ClassId) (md : Nat → Nat) (sz : Nat) (mth msz mrn mmy mdf mgu mhs mlv : Int32) (mba mgi mfi mle mst msu mtr mdi mfa mca : Nat → Int32) (p1 : Int32) (r : (Int32 × Int32)) (hf : f_X4_sumOf mth mrn msu p1 = some r) : Met l yX4_sumOf wsX4_sumOf rm_X4_sumOf (PC D cI cZ sz [.ref (md 0), .int p1] (wM cI cZ md mth msz mrn mmy mdf mgu mhs mlv mba mgi mfi mle mst msu mtr mdi mfa mca)) (QI D cI cZ sz (wM cI cZ md mth msz mrn mmy mdf mgu mhs mlv mba mgi mfi mle mst msu mtr mdi mfa mca) r.1 (wM cI cZ md r.2 msz mrn mmy mdf mgu mhs mlv mba mgi mfi mle mst msu mtr mdi mfa mca)) 0 0 (va_A (wM cI cZ md mth msz mrn mmy mdf mgu mhs mlv mba mgi mfi mle mst msu mtr mdi mfa mca) sz) := by
  refine mk_i (cc := cX4_sumOf) (maxL := 2) (lv0 := [(0, .ref (md 0)), (1, .int p1)]) (by decide) rfl (Nat.le_of_ble_eq_true rfl) rfl ?_
  intro p e s m args below meth c ls A Q H hx hb hml hown hts hK hP hD hA hS hl hR
  have hinX4 : ∀ w ∈ wsX40, w ∈ wsX4_sumOf := by decide +kernel
  rw [f_X4_sumOf] at hf
  refine lv_aload_n hx hb dX4_sumOf_0 rfl (lv_at hl 0 rfl) ?_
  refine lv_aload_n hx hb dX4_sumOf_1 rfl (lv_at hl 0 rfl) ?_
  refine lv_iload_n hx hb dX4_sumOf_2 rfl (lv_at hl 1 rfl) ?_
  obtain ⟨x3, hy3, hf⟩ := Option.bind_eq_some_iff.mp hf
  refine clV_i (As := [.int p1]) (rest := [.ref (md 0)]) (wM cI cZ md mth msz mrn mmy mdf mgu mhs mlv mba mgi mfi mle mst msu mtr mdi mfa mca) ⟨hx, hb, hml, hown, hts⟩ (K_X4_isRun l D cI cZ md H.size mth msz mrn mmy mdf mgu mhs mlv mba mgi mfi mle mst msu mtr mdi mfa mca p1 _ hy3) (cwV 1 hts gX4_sumOf_X4_isRun rfl rfl rfl (by decide +kernel) ⟨Nat.le_of_ble_eq_true rfl, Nat.le_of_ble_eq_true rfl⟩) hK hP hD hS hA hl.1 [0, 1, 2, 3, 4, 5, 6, 7, 8, 9, 10] (by decide) rfl rfl rfl 4 0 rfl rfl rfl rfl rfl (Nat.le_of_ble_eq_true rfl) dX4_sumOf_3 ⟨Nat.le_of_ble_eq_true rfl, Nat.le_of_ble_eq_true rfl⟩ (fun H locs hP hD hS => ?_)
  obtain ⟨k14, hk14, hf⟩ := jn_some hf
  have w14 : ∀ (t0_14 : Int32), k14 t0_14 = some r → ∀ (H : Heap) (locs : List Loc) (ls : Array Slot), va_P D vwCl (wM cI cZ md mth msz mrn mmy mdf mgu mhs mlv mba mgi mfi mle mst msu mtr mdi mfa mca) H → va_D A (wM cI cZ md mth msz mrn mmy mdf mgu mhs mlv mba mgi mfi mle mst msu mtr mdi mfa mca) → va_S A s.heap H locs → lv_has ls 2 [(0, .ref (md 0)), (1, .int p1)] → W p l e rm_X4_sumOf s m args below meth c H locs 0 0 Q (F0 m 14 ls [.int t0_14, .ref (md 0)]) := by
    intro t0_14 hf H locs ls hP hD hS hl
    rw [hk14] at hf
    try dsimp only at hf
    obtain ⟨x14, hy14, hf⟩ := jn_some hf
    refine clV_i (As := [.int t0_14]) (rest := []) (wM cI cZ md x14.2 msz mrn mmy mdf mgu mhs mlv mba mgi mfi mle mst msu mtr mdi mfa mca) ⟨hx, hb, hml, hown, hts⟩ (K_X4_goesWell l D cI cZ md H.size mth msz mrn mmy mdf mgu mhs mlv mba mgi mfi mle mst msu mtr mdi mfa mca t0_14 _ hy14.symm) (cwV 1 hts gX4_sumOf_X4_goesWell rfl rfl rfl (by decide +kernel) ⟨Nat.le_of_ble_eq_true rfl, Nat.le_of_ble_eq_true rfl⟩) hK hP hD hS hA hl.1 [0, 1, 2, 3, 4, 5, 6, 7, 8, 9, 10] (by decide) rfl rfl rfl 4 0 rfl rfl rfl rfl rfl (Nat.le_of_ble_eq_true rfl) dX4_sumOf_14 ⟨Nat.le_of_ble_eq_true rfl, Nat.le_of_ble_eq_true rfl⟩ (fun H locs hP hD hS => ?_)
    refine lv_if_eq (tgt := 29) hx hb dX4_sumOf_17 (by decide) (fun c_17 => ?_) (fun c_17 => ?_)
    · have hf := ite_t c_17 hf
      refine lv_iconst (v := 0) hx hb dX4_sumOf_29 (by decide) ?_
      cases hf
      exact hR _ _ _ _ _ _ rfl rfl hP hD hS dX4_sumOf_30
    · have hf := ite_f c_17 hf
      refine lv_aload_n hx hb dX4_sumOf_20 rfl (lv_at hl 0 rfl) ?_
      refine va_get (D := D) (ci := 4) (v := .ref (md 6)) (C := RX4) (T := TX4) (N := 18) hx hb hts hinX4 hown hK.1 hP 0 rfl rfl 8 (by decide) (hts (.fieldLink RX4 30 "GridpuzzleModel" "sums" "[I") (by decide +kernel)) (fun _ h9 => h9) rfl dX4_sumOf_21 ?_
      refine lv_iload_n hx hb dX4_sumOf_24 rfl (lv_at hl 1 rfl) ?_
      obtain ⟨hz25, hf⟩ := gd_some hf
      refine va_iald hx hb hK.1 hP 6 0 rfl rfl hz25 dX4_sumOf_25 ?_
      refine lv_goto (tgt := 30) hx hb dX4_sumOf_26 (by decide) ?_
      cases hf
      exact hR _ _ _ _ _ _ rfl rfl hP hD hS dX4_sumOf_30
  refine lv_if_eq (tgt := 13) hx hb dX4_sumOf_6 (by decide) (fun c_6 => ?_) (fun c_6 => ?_)
  · have hf := ite_t c_6 hf
    refine lv_iconst (v := 1) hx hb dX4_sumOf_13 (by decide) ?_
    exact w14 1 hf _ _ _ hP hD hS (lv_sub hl [0, 1] rfl)
  · have hf := ite_f c_6 hf
    refine lv_iconst (v := 0) hx hb dX4_sumOf_9 (by decide) ?_
    refine lv_goto (tgt := 14) hx hb dX4_sumOf_10 (by decide) ?_
    exact w14 0 hf _ _ _ hP hD hS (lv_sub hl [0, 1] rfl)
def rm_X4_digit : Room := { frames := 2, cells := 0, slots := 0, locals := 43 }
set_option maxRecDepth 100000 in
set_option maxHeartbeats 8000000 in
theorem K_X4_digit (l : Launch) (D : va_G) (cI cZ : ClassId) (md : Nat → Nat) (sz : Nat) (mth msz mrn mmy mdf mgu mhs mlv : Int32) (mba mgi mfi mle mst msu mtr mdi mfa mca : Nat → Int32) (p1 : Int32) (r : (Int32 × Int32)) (hf : f_X4_digit mth msz mba mgi p1 = some r) : Met l yX4_digit wsX4_digit rm_X4_digit (PC D cI cZ sz [.ref (md 0), .int p1] (wM cI cZ md mth msz mrn mmy mdf mgu mhs mlv mba mgi mfi mle mst msu mtr mdi mfa mca)) (QI D cI cZ sz (wM cI cZ md mth msz mrn mmy mdf mgu mhs mlv mba mgi mfi mle mst msu mtr mdi mfa mca) r.1 (wM cI cZ md r.2 msz mrn mmy mdf mgu mhs mlv mba mgi mfi mle mst msu mtr mdi mfa mca)) 0 0 (va_A (wM cI cZ md mth msz mrn mmy mdf mgu mhs mlv mba mgi mfi mle mst msu mtr mdi mfa mca) sz) := by
  refine mk_i (cc := cX4_digit) (maxL := 2) (lv0 := [(0, .ref (md 0)), (1, .int p1)]) (by decide) rfl (Nat.le_of_ble_eq_true rfl) rfl ?_
  intro p e s m args below meth c ls A Q H hx hb hml hown hts hK hP hD hA hS hl hR
  have hinX4 : ∀ w ∈ wsX40, w ∈ wsX4_digit := by decide +kernel
  rw [f_X4_digit] at hf
  refine lv_aload_n hx hb dX4_digit_0 rfl (lv_at hl 0 rfl) ?_
  refine lv_aload_n hx hb dX4_digit_1 rfl (lv_at hl 0 rfl) ?_
  refine lv_iload_n hx hb dX4_digit_2 rfl (lv_at hl 1 rfl) ?_
  refine clV_i (As := [.int p1]) (rest := [.ref (md 0)]) (wM cI cZ md mth msz mrn mmy mdf mgu mhs mlv mba mgi mfi mle mst msu mtr mdi mfa mca) ⟨hx, hb, hml, hown, hts⟩ (K_X4_isCell l D cI cZ md H.size mth msz mrn mmy mdf mgu mhs mlv mba mgi mfi mle mst msu mtr mdi mfa mca p1 _ rfl) (cwV 1 hts gX4_digit_X4_isCell rfl rfl rfl (by decide +kernel) ⟨Nat.le_of_ble_eq_true rfl, Nat.le_of_ble_eq_true rfl⟩) hK hP hD hS hA hl.1 [0, 1, 2, 3, 4, 5, 6, 7, 8, 9, 10] (by decide) rfl rfl rfl 4 0 rfl rfl rfl rfl rfl (Nat.le_of_ble_eq_true rfl) dX4_digit_3 ⟨Nat.le_of_ble_eq_true rfl, Nat.le_of_ble_eq_true rfl⟩ (fun H locs hP hD hS => ?_)
  obtain ⟨k14, hk14, hf⟩ := jn_some hf
  have w14 : ∀ (t0_14 : Int32), k14 t0_14 = some r → ∀ (H : Heap) (locs : List Loc) (ls : Array Slot), va_P D vwCl (wM cI cZ md mth msz mrn mmy mdf mgu mhs mlv mba mgi mfi mle mst msu mtr mdi mfa mca) H → va_D A (wM cI cZ md mth msz mrn mmy mdf mgu mhs mlv mba mgi mfi mle mst msu mtr mdi mfa mca) → va_S A s.heap H locs → lv_has ls 2 [(0, .ref (md 0)), (1, .int p1)] → W p l e rm_X4_digit s m args below meth c H locs 0 0 Q (F0 m 14 ls [.int t0_14, .ref (md 0)]) := by
    intro t0_14 hf H locs ls hP hD hS hl
    rw [hk14] at hf
    try dsimp only at hf
    obtain ⟨x14, hy14, hf⟩ := jn_some hf
    refine clV_i (As := [.int t0_14]) (rest := []) (wM cI cZ md x14.2 msz mrn mmy mdf mgu mhs mlv mba mgi mfi mle mst msu mtr mdi mfa mca) ⟨hx, hb, hml, hown, hts⟩ (K_X4_goesWell l D cI cZ md H.size mth msz mrn mmy mdf mgu mhs mlv mba mgi mfi mle mst msu mtr mdi mfa mca t0_14 _ hy14.symm) (cwV 1 hts gX4_digit_X4_goesWell rfl rfl rfl (by decide +kernel) ⟨Nat.le_of_ble_eq_true rfl, Nat.le_of_ble_eq_true rfl⟩) hK hP hD hS hA hl.1 [0, 1, 2, 3, 4, 5, 6, 7, 8, 9, 10] (by decide) rfl rfl rfl 4 0 rfl rfl rfl rfl rfl (Nat.le_of_ble_eq_true rfl) dX4_digit_14 ⟨Nat.le_of_ble_eq_true rfl, Nat.le_of_ble_eq_true rfl⟩ (fun H locs hP hD hS => ?_)
    refine lv_if_ne (tgt := 22) hx hb dX4_digit_17 (by decide) (fun c_17 => ?_) (fun c_17 => ?_)
    · have hf := ite_f c_17 hf
      refine lv_aload_n hx hb dX4_digit_22 rfl (lv_at hl 0 rfl) ?_
      refine va_get (D := D) (ci := 4) (v := .ref (md 1)) (C := RX4) (T := TX4) (N := 18) hx hb hts hinX4 hown hK.1 hP 0 rfl rfl 2 (by decide) (hts (.fieldLink RX4 13 "GridpuzzleModel" "isBarred" "[Z") (by decide +kernel)) (fun _ h9 => h9) rfl dX4_digit_23 ?_
      refine lv_iload_n hx hb dX4_digit_26 rfl (lv_at hl 1 rfl) ?_
      obtain ⟨hz27, hf⟩ := gd_some hf
      refine va_zald hx hb hK.1 hP 1 1 rfl rfl hz27 dX4_digit_27 ?_
      refine lv_if_eq (tgt := 35) hx hb dX4_digit_28 (by decide) (fun c_28 => ?_) (fun c_28 => ?_)
      · have hf := ite_t c_28 hf
        refine lv_aload_n hx hb dX4_digit_35 rfl (lv_at hl 0 rfl) ?_
        refine va_get (D := D) (ci := 4) (v := .ref (md 2)) (C := RX4) (T := TX4) (N := 18) hx hb hts hinX4 hown hK.1 hP 0 rfl rfl 3 (by decide) (hts (.fieldLink RX4 17 "GridpuzzleModel" "given" "[I") (by decide +kernel)) (fun _ h9 => h9) rfl dX4_digit_36 ?_
        refine lv_iload_n hx hb dX4_digit_39 rfl (lv_at hl 1 rfl) ?_
        obtain ⟨hz40, hf⟩ := gd_some hf
        refine va_iald hx hb hK.1 hP 2 0 rfl rfl hz40 dX4_digit_40 ?_
        cases hf
        exact hR _ _ _ _ _ _ rfl rfl hP hD hS dX4_digit_41
      · have hf := ite_f c_28 hf
        refine lv_iconst (v := (-1)) hx hb dX4_digit_31 (by decide) ?_
        refine lv_goto (tgt := 41) hx hb dX4_digit_32 (by decide) ?_
        cases hf
        exact hR _ _ _ _ _ _ rfl rfl hP hD hS dX4_digit_41
    · have hf := ite_t c_17 hf
      refine lv_iconst (v := 0) hx hb dX4_digit_20 (by decide) ?_
      cases hf
      exact hR _ _ _ _ _ _ rfl rfl hP hD hS dX4_digit_21
  refine lv_if_eq (tgt := 13) hx hb dX4_digit_6 (by decide) (fun c_6 => ?_) (fun c_6 => ?_)
  · have hf := ite_t c_6 hf
    refine lv_iconst (v := 1) hx hb dX4_digit_13 (by decide) ?_
    exact w14 1 hf _ _ _ hP hD hS (lv_sub hl [0, 1] rfl)
  · have hf := ite_f c_6 hf
    refine lv_iconst (v := 0) hx hb dX4_digit_9 (by decide) ?_
    refine lv_goto (tgt := 14) hx hb dX4_digit_10 (by decide) ?_
    exact w14 0 hf _ _ _ hP hD hS (lv_sub hl [0, 1] rfl)
def rm_X4_isGood : Room := { frames := 2, cells := 0, slots := 0, locals := 45 }
set_option maxRecDepth 100000 in
set_option maxHeartbeats 8000000 in
theorem K_X4_isGood (l : Launch) (D : va_G) (cI cZ : ClassId) (md : Nat → Nat) (sz : Nat) (N : Nat) (mth msz mrn mmy mdf mgu mhs mlv : Int32) (mba mgi mfi mle mst msu mtr mdi mfa mca : Nat → Int32) (p1 : Int32) (p2 : Int32) (r : (Int32)) (hf : f_X4_isGood N mrn mfi mle mst msu mdi p1 p2 = some r) : Met l yX4_isGood wsX4_isGood rm_X4_isGood (PC D cI cZ sz [.ref (md 0), .int p1, .int p2] (wM cI cZ md mth msz mrn mmy mdf mgu mhs mlv mba mgi mfi mle mst msu mtr mdi mfa mca)) (QI D cI cZ sz (wM cI cZ md mth msz mrn mmy mdf mgu mhs mlv mba mgi mfi mle mst msu mtr mdi mfa mca) r (wM cI cZ md mth msz mrn mmy mdf mgu mhs mlv mba mgi mfi mle mst msu mtr mdi mfa mca)) 0 0 (va_A (wM cI cZ md mth msz mrn mmy mdf mgu mhs mlv mba mgi mfi mle mst msu mtr mdi mfa mca) sz) := by
  refine mk_z (cc := cX4_isGood) (maxL := 8) (lv0 := [(0, .ref (md 0)), (1, .int p1), (2, .int p2)]) (by decide) rfl (Nat.le_of_ble_eq_true rfl) rfl ?_
  intro p e s m args below meth c ls A Q H hx hb hml hown hts hK hP hD hA hS hl hR
  have hinX4 : ∀ w ∈ wsX40, w ∈ wsX4_isGood := by decide +kernel
  rw [f_X4_isGood] at hf
  refine lv_iconst (v := 1) hx hb dX4_isGood_0 (by decide) ?_
  refine lv_istore_n (lv' := [(3, .int 1), (0, .ref (md 0)), (1, .int p1), (2, .int p2)]) hx hb dX4_isGood_1 rfl hl (by decide) rfl (fun ls hl => ?_)
  refine lv_iconst (v := 0) hx hb dX4_isGood_2 (by decide) ?_
  refine lv_istore (lv' := [(4, .int 0), (3, .int 1), (0, .ref (md 0)), (1, .int p1), (2, .int p2)]) hx hb dX4_isGood_3 hl (by decide) rfl (fun ls hl => ?_)
  have l5 : ∀ (nn : Nat) (v3_5 : Int32) (v4_5 : Int32), f_X4_isGood_L5 N p1 p2 mrn mfi mle mst msu mdi nn v3_5 v4_5 = some r → ∀ (H : Heap) (locs : List Loc) (ls : Array Slot), va_P D vwCl (wM cI cZ md mth msz mrn mmy mdf mgu mhs mlv mba mgi mfi mle mst msu mtr mdi mfa mca) H → va_D A (wM cI cZ md mth msz mrn mmy mdf mgu mhs mlv mba mgi mfi mle mst msu mtr mdi mfa mca) → va_S A s.heap H locs → lv_has ls 8 [(0, .ref (md 0)), (1, .int p1), (2, .int p2), (3, .int v3_5), (4, .int v4_5)] → W p l e rm_X4_isGood s m args below meth c H locs 0 0 Q (F0 m 5 ls []) := by
    intro nn
    induction nn with
    | zero => intro _ _ hf; exact nomatch (show (none : Option _) = some r from hf)
    | succ n5 ih5 =>
      intro v3_5 v4_5 hf H locs ls hP hD hS hl
      rw [f_X4_isGood_L5.eq_2] at hf
      refine lv_iload hx hb dX4_isGood_5 (lv_at hl 4 rfl) ?_
      refine lv_aload_n hx hb dX4_isGood_7 rfl (lv_at hl 0 rfl) ?_
      refine va_get (D := D) (ci := 4) (v := .int mrn) (C := RX4) (T := TX4) (N := 18) hx hb hts hinX4 hown hK.1 hP 0 rfl rfl 4 (by decide) (hts (.fieldLink RX4 59 "GridpuzzleModel" "runs" "I") (by decide +kernel)) (fun _ h9 => h9) rfl dX4_isGood_8 ?_
      refine lv_icmp_ge (tgt := 182) hx hb dX4_isGood_11 (by decide) (fun c_11 => ?_) (fun c_11 => ?_)
      · have hf := ite_t c_11 hf
        refine lv_iload_n hx hb dX4_isGood_182 rfl (lv_at hl 3 rfl) ?_
        obtain ⟨hz183, hf⟩ := gd_some hf
        cases hf
        exact hR _ _ _ _ _ _ hz183 rfl rfl hP hD hS dX4_isGood_183
      · have hf := ite_f c_11 hf
        refine lv_iload_n hx hb dX4_isGood_14 rfl (lv_at hl 3 rfl) ?_
        refine lv_if_eq (tgt := 182) hx hb dX4_isGood_15 (by decide) (fun c_15 => ?_) (fun c_15 => ?_)
        · have hf := ite_t c_15 hf
          refine lv_iload_n hx hb dX4_isGood_182 rfl (lv_at hl 3 rfl) ?_
          obtain ⟨hz183, hf⟩ := gd_some hf
          cases hf
          exact hR _ _ _ _ _ _ hz183 rfl rfl hP hD hS dX4_isGood_183
        · have hf := ite_f c_15 hf
          refine lv_aload_n hx hb dX4_isGood_18 rfl (lv_at hl 0 rfl) ?_
          refine lv_iload hx hb dX4_isGood_19 (lv_at hl 4 rfl) ?_
          refine lv_iload_n hx hb dX4_isGood_21 rfl (lv_at hl 1 rfl) ?_
          obtain ⟨x22, hy22, hf⟩ := Option.bind_eq_some_iff.mp hf
          refine clV_i (As := [.int v4_5, .int p1]) (rest := []) (wM cI cZ md mth msz mrn mmy mdf mgu mhs mlv mba mgi mfi mle mst msu mtr mdi mfa mca) ⟨hx, hb, hml, hown, hts⟩ (K_X4_has l D cI cZ md H.size mth msz mrn mmy mdf mgu mhs mlv mba mgi mfi mle mst msu mtr mdi mfa mca v4_5 p1 _ hy22) (cwV 2 hts gX4_isGood_X4_has rfl rfl rfl (by decide +kernel) ⟨Nat.le_of_ble_eq_true rfl, Nat.le_of_ble_eq_true rfl⟩) hK hP hD hS hA hl.1 [0, 1, 2, 3, 4, 5, 6, 7, 8, 9, 10] (by decide) rfl rfl rfl 4 0 rfl rfl rfl rfl rfl (Nat.le_of_ble_eq_true rfl) dX4_isGood_22 ⟨Nat.le_of_ble_eq_true rfl, Nat.le_of_ble_eq_true rfl⟩ (fun H locs hP hD hS => ?_)
          obtain ⟨k176, hk176, hf⟩ := jn_some hf
          have w176 : ∀ (v3_176 : Int32), k176 v3_176 = some r → ∀ (H : Heap) (locs : List Loc) (ls : Array Slot), va_P D vwCl (wM cI cZ md mth msz mrn mmy mdf mgu mhs mlv mba mgi mfi mle mst msu mtr mdi mfa mca) H → va_D A (wM cI cZ md mth msz mrn mmy mdf mgu mhs mlv mba mgi mfi mle mst msu mtr mdi mfa mca) → va_S A s.heap H locs → lv_has ls 8 [(0, .ref (md 0)), (1, .int p1), (2, .int p2), (3, .int v3_176), (4, .int v4_5)] → W p l e rm_X4_isGood s m args below meth c H locs 0 0 Q (F0 m 176 ls []) := by
            intro v3_176 hf H locs ls hP hD hS hl
            rw [hk176] at hf
            try dsimp only at hf
            refine lv_iinc (v := (v4_5 + 1)) (lv' := [(4, .int (v4_5 + 1)), (0, .ref (md 0)), (1, .int p1), (2, .int p2), (3, .int v3_176)]) hx hb dX4_isGood_176 hl (k := 4) rfl rfl (by decide) rfl (fun ls hl => ?_)
            refine lv_goto (tgt := 5) hx hb dX4_isGood_179 (by decide) ?_
            exact ih5 v3_176 (v4_5 + 1) hf _ _ _ hP hD hS (lv_sub hl [1, 2, 3, 4, 0] rfl)
          refine lv_if_eq (tgt := 176) hx hb dX4_isGood_25 (by decide) (fun c_25 => ?_) (fun c_25 => ?_)
          · have hf := ite_t c_25 hf
            exact w176 v3_5 hf _ _ _ hP hD hS (lv_sub hl [0, 1, 2, 3, 4] rfl)
          · have hf := ite_f c_25 hf
            refine lv_iconst (v := 1) hx hb dX4_isGood_28 (by decide) ?_
            refine lv_istore (lv' := [(5, .int 1), (0, .ref (md 0)), (1, .int p1), (2, .int p2), (3, .int v3_5), (4, .int v4_5)]) hx hb dX4_isGood_29 hl (by decide) rfl (fun ls hl => ?_)
            refine lv_iconst (v := 0) hx hb dX4_isGood_31 (by decide) ?_
            refine lv_istore (lv' := [(6, .int 0), (5, .int 1), (0, .ref (md 0)), (1, .int p1), (2, .int p2), (3, .int v3_5), (4, .int v4_5)]) hx hb dX4_isGood_32 hl (by decide) rfl (fun ls hl => ?_)
            obtain ⟨k117, hk117, hf⟩ := jn_some hf
            have w117 : ∀ (v3_117 : Int32) (v5_117 : Int32), k117 v3_117 v5_117 = some r → ∀ (H : Heap) (locs : List Loc) (ls : Array Slot), va_P D vwCl (wM cI cZ md mth msz mrn mmy mdf mgu mhs mlv mba mgi mfi mle mst msu mtr mdi mfa mca) H → va_D A (wM cI cZ md mth msz mrn mmy mdf mgu mhs mlv mba mgi mfi mle mst msu mtr mdi mfa mca) → va_S A s.heap H locs → lv_has ls 8 [(0, .ref (md 0)), (1, .int p1), (2, .int p2), (3, .int v3_117), (4, .int v4_5), (5, .int v5_117)] → W p l e rm_X4_isGood s m args below meth c H locs 0 0 Q (F0 m 117 ls []) := by
              intro v3_117 v5_117 hf H locs ls hP hD hS hl
              rw [hk117] at hf
              try dsimp only at hf
              refine lv_aload_n hx hb dX4_isGood_117 rfl (lv_at hl 0 rfl) ?_
              refine lv_iload hx hb dX4_isGood_118 (lv_at hl 4 rfl) ?_
              obtain ⟨x120, hy120, hf⟩ := Option.bind_eq_some_iff.mp hf
              refine clV_i (As := [.int v4_5]) (rest := []) (wM cI cZ md mth msz mrn mmy mdf mgu mhs mlv mba mgi mfi mle mst msu mtr mdi mfa mca) ⟨hx, hb, hml, hown, hts⟩ (K_X4_sumUp l D cI cZ md H.size N mth msz mrn mmy mdf mgu mhs mlv mba mgi mfi mle mst msu mtr mdi mfa mca v4_5 _ hy120) (cwV 1 hts gX4_isGood_X4_sumUp rfl rfl rfl (by decide +kernel) ⟨Nat.le_of_ble_eq_true rfl, Nat.le_of_ble_eq_true rfl⟩) hK hP hD hS hA hl.1 [0, 1, 2, 3, 4, 5, 6, 7, 8, 9, 10] (by decide) rfl rfl rfl 4 0 rfl rfl rfl rfl rfl (Nat.le_of_ble_eq_true rfl) dX4_isGood_120 ⟨Nat.le_of_ble_eq_true rfl, Nat.le_of_ble_eq_true rfl⟩ (fun H locs hP hD hS => ?_)
              refine lv_iload_n hx hb dX4_isGood_123 rfl (lv_at hl 2 rfl) ?_
              refine lv_iadd hx hb dX4_isGood_124 ?_
              refine lv_istore (lv' := [(6, .int (x120 + p2)), (0, .ref (md 0)), (1, .int p1), (2, .int p2), (3, .int v3_117), (4, .int v4_5), (5, .int v5_117)]) hx hb dX4_isGood_125 hl (by decide) rfl (fun ls hl => ?_)
              refine lv_iload_n hx hb dX4_isGood_127 rfl (lv_at hl 4 rfl) ?_
              obtain ⟨k175, hk175, hf⟩ := jn_some hf
              have w175 : ∀ (t0_175 : Int32), k175 t0_175 = some r → ∀ (H : Heap) (locs : List Loc) (ls : Array Slot), va_P D vwCl (wM cI cZ md mth msz mrn mmy mdf mgu mhs mlv mba mgi mfi mle mst msu mtr mdi mfa mca) H → va_D A (wM cI cZ md mth msz mrn mmy mdf mgu mhs mlv mba mgi mfi mle mst msu mtr mdi mfa mca) → va_S A s.heap H locs → lv_has ls 8 [(0, .ref (md 0)), (1, .int p1), (2, .int p2), (4, .int v4_5)] → W p l e rm_X4_isGood s m args below meth c H locs 0 0 Q (F0 m 175 ls [.int t0_175]) := by
                intro t0_175 hf H locs ls hP hD hS hl
                rw [hk175] at hf
                try dsimp only at hf
                refine lv_istore_n (lv' := [(3, .int t0_175), (0, .ref (md 0)), (1, .int p1), (2, .int p2), (4, .int v4_5)]) hx hb dX4_isGood_175 rfl hl (by decide) rfl (fun ls hl => ?_)
                exact w176 t0_175 hf _ _ _ hP hD hS (lv_sub hl [1, 2, 3, 0, 4] rfl)
              obtain ⟨k174, hk174, hf⟩ := jn_some hf
              have w174 : ∀ (_ : Unit), k174 () = some r → ∀ (H : Heap) (locs : List Loc) (ls : Array Slot), va_P D vwCl (wM cI cZ md mth msz mrn mmy mdf mgu mhs mlv mba mgi mfi mle mst msu mtr mdi mfa mca) H → va_D A (wM cI cZ md mth msz mrn mmy mdf mgu mhs mlv mba mgi mfi mle mst msu mtr mdi mfa mca) → va_S A s.heap H locs → lv_has ls 8 [(0, .ref (md 0)), (1, .int p1), (2, .int p2), (4, .int v4_5)] → W p l e rm_X4_isGood s m args below meth c H locs 0 0 Q (F0 m 174 ls []) := by
                intro _ hf H locs ls hP hD hS hl
                rw [hk174] at hf
                try dsimp only at hf
                refine lv_iconst (v := 0) hx hb dX4_isGood_174 (by decide) ?_
                exact w175 0 hf _ _ _ hP hD hS (lv_sub hl [0, 1, 2, 3] rfl)
              refine lv_if_eq (tgt := 174) hx hb dX4_isGood_128 (by decide) (fun c_128 => ?_) (fun c_128 => ?_)
              · have hf := ite_t c_128 hf
                exact w174 () hf _ _ _ hP hD hS (lv_sub hl [1, 2, 3, 5] rfl)
              · have hf := ite_f c_128 hf
                refine lv_aload_n hx hb dX4_isGood_131 rfl (lv_at hl 1 rfl) ?_
                refine va_get (D := D) (ci := 4) (v := .ref (md 6)) (C := RX4) (T := TX4) (N := 18) hx hb hts hinX4 hown hK.1 hP 0 rfl rfl 8 (by decide) (hts (.fieldLink RX4 30 "GridpuzzleModel" "sums" "[I") (by decide +kernel)) (fun _ h9 => h9) rfl dX4_isGood_132 ?_
                refine lv_iload hx hb dX4_isGood_135 (lv_at hl 5 rfl) ?_
                obtain ⟨hz137, hf⟩ := gd_some hf
                refine va_iald hx hb hK.1 hP 6 0 rfl rfl hz137 dX4_isGood_137 ?_
                obtain ⟨k170, hk170, hf⟩ := jn_some hf
                have w170 : ∀ (_ : Unit), k170 () = some r → ∀ (H : Heap) (locs : List Loc) (ls : Array Slot), va_P D vwCl (wM cI cZ md mth msz mrn mmy mdf mgu mhs mlv mba mgi mfi mle mst msu mtr mdi mfa mca) H → va_D A (wM cI cZ md mth msz mrn mmy mdf mgu mhs mlv mba mgi mfi mle mst msu mtr mdi mfa mca) → va_S A s.heap H locs → lv_has ls 8 [(0, .ref (md 0)), (1, .int p1), (2, .int p2), (4, .int v4_5)] → W p l e rm_X4_isGood s m args below meth c H locs 0 0 Q (F0 m 170 ls []) := by
                  intro _ hf H locs ls hP hD hS hl
                  rw [hk170] at hf
                  try dsimp only at hf
                  refine lv_iconst (v := 1) hx hb dX4_isGood_170 (by decide) ?_
                  refine lv_goto (tgt := 175) hx hb dX4_isGood_171 (by decide) ?_
                  exact w175 1 hf _ _ _ hP hD hS (lv_sub hl [0, 1, 2, 3] rfl)
                refine lv_if_eq (tgt := 170) hx hb dX4_isGood_138 (by decide) (fun c_138 => ?_) (fun c_138 => ?_)
                · have hf := ite_t c_138 hf
                  exact w170 () hf _ _ _ hP hD hS (lv_sub hl [1, 2, 3, 5] rfl)
                · have hf := ite_f c_138 hf
                  refine lv_iload hx hb dX4_isGood_141 (lv_at hl 0 rfl) ?_
                  refine lv_aload_n hx hb dX4_isGood_143 rfl (lv_at hl 1 rfl) ?_
                  refine va_get (D := D) (ci := 4) (v := .ref (md 6)) (C := RX4) (T := TX4) (N := 18) hx hb hts hinX4 hown hK.1 hP 0 rfl rfl 8 (by decide) (hts (.fieldLink RX4 30 "GridpuzzleModel" "sums" "[I") (by decide +kernel)) (fun _ h9 => h9) rfl dX4_isGood_144 ?_
                  refine lv_iload hx hb dX4_isGood_147 (lv_at hl 5 rfl) ?_
                  obtain ⟨hz149, hf⟩ := gd_some hf
                  refine va_iald hx hb hK.1 hP 6 0 rfl rfl hz149 dX4_isGood_149 ?_
                  refine lv_icmp_eq (tgt := 170) hx hb dX4_isGood_150 (by decide) (fun c_150 => ?_) (fun c_150 => ?_)
                  · have hf := ite_t c_150 hf
                    exact w170 () hf _ _ _ hP hD hS (lv_sub hl [1, 2, 3, 5] rfl)
                  · have hf := ite_f c_150 hf
                    refine lv_iload hx hb dX4_isGood_153 (lv_at hl 0 rfl) ?_
                    refine lv_aload_n hx hb dX4_isGood_155 rfl (lv_at hl 1 rfl) ?_
                    refine va_get (D := D) (ci := 4) (v := .ref (md 6)) (C := RX4) (T := TX4) (N := 18) hx hb hts hinX4 hown hK.1 hP 0 rfl rfl 8 (by decide) (hts (.fieldLink RX4 30 "GridpuzzleModel" "sums" "[I") (by decide +kernel)) (fun _ h9 => h9) rfl dX4_isGood_156 ?_
                    refine lv_iload hx hb dX4_isGood_159 (lv_at hl 5 rfl) ?_
                    obtain ⟨hz161, hf⟩ := gd_some hf
                    refine va_iald hx hb hK.1 hP 6 0 rfl rfl hz161 dX4_isGood_161 ?_
                    refine lv_icmp_ge (tgt := 174) hx hb dX4_isGood_162 (by decide) (fun c_162 => ?_) (fun c_162 => ?_)
                    · have hf := ite_t c_162 hf
                      exact w174 () hf _ _ _ hP hD hS (lv_sub hl [1, 2, 3, 5] rfl)
                    · have hf := ite_f c_162 hf
                      refine lv_iload hx hb dX4_isGood_165 (lv_at hl 6 rfl) ?_
                      refine lv_if_ne (tgt := 174) hx hb dX4_isGood_167 (by decide) (fun c_167 => ?_) (fun c_167 => ?_)
                      · have hf := ite_f c_167 hf
                        exact w174 () hf _ _ _ hP hD hS (lv_sub hl [1, 2, 3, 5] rfl)
                      · have hf := ite_t c_167 hf
                        exact w170 () hf _ _ _ hP hD hS (lv_sub hl [1, 2, 3, 5] rfl)
            have l34 : ∀ (nn : Nat) (v3_34 : Int32) (v5_34 : Int32) (v6_34 : Int32), f_X4_isGood_L34 p1 p2 v4_5 mfi mle mst mdi k117 nn v3_34 v5_34 v6_34 = some r → ∀ (H : Heap) (locs : List Loc) (ls : Array Slot), va_P D vwCl (wM cI cZ md mth msz mrn mmy mdf mgu mhs mlv mba mgi mfi mle mst msu mtr mdi mfa mca) H → va_D A (wM cI cZ md mth msz mrn mmy mdf mgu mhs mlv mba mgi mfi mle mst msu mtr mdi mfa mca) → va_S A s.heap H locs → lv_has ls 8 [(0, .ref (md 0)), (1, .int p1), (2, .int p2), (3, .int v3_34), (4, .int v4_5), (5, .int v5_34), (6, .int v6_34)] → W p l e rm_X4_isGood s m args below meth c H locs 0 0 Q (F0 m 34 ls []) := by
              intro nn
              induction nn with
              | zero => intro _ _ _ hf; exact nomatch (show (none : Option _) = some r from hf)
              | succ n34 ih34 =>
                intro v3_34 v5_34 v6_34 hf H locs ls hP hD hS hl
                rw [f_X4_isGood_L34.eq_2] at hf
                refine lv_iload hx hb dX4_isGood_34 (lv_at hl 6 rfl) ?_
                refine lv_aload_n hx hb dX4_isGood_36 rfl (lv_at hl 0 rfl) ?_
                refine va_get (D := D) (ci := 4) (v := .ref (md 4)) (C := RX4) (T := TX4) (N := 18) hx hb hts hinX4 hown hK.1 hP 0 rfl rfl 6 (by decide) (hts (.fieldLink RX4 24 "GridpuzzleModel" "lengths" "[I") (by decide +kernel)) (fun _ h9 => h9) rfl dX4_isGood_37 ?_
                refine lv_iload hx hb dX4_isGood_40 (lv_at hl 4 rfl) ?_
                obtain ⟨hz42, hf⟩ := gd_some hf
                refine va_iald hx hb hK.1 hP 4 0 rfl rfl hz42 dX4_isGood_42 ?_
                refine lv_icmp_ge (tgt := 117) hx hb dX4_isGood_43 (by decide) (fun c_43 => ?_) (fun c_43 => ?_)
                · have hf := ite_t c_43 hf
                  exact w117 v3_34 v5_34 hf _ _ _ hP hD hS (lv_sub hl [0, 1, 2, 3, 4, 5] rfl)
                · have hf := ite_f c_43 hf
                  refine lv_aload_n hx hb dX4_isGood_46 rfl (lv_at hl 0 rfl) ?_
                  refine lv_iload hx hb dX4_isGood_47 (lv_at hl 4 rfl) ?_
                  refine lv_iload hx hb dX4_isGood_49 (lv_at hl 6 rfl) ?_
                  obtain ⟨x51, hy51, hf⟩ := Option.bind_eq_some_iff.mp hf
                  refine clV_i (As := [.int v4_5, .int v6_34]) (rest := []) (wM cI cZ md mth msz mrn mmy mdf mgu mhs mlv mba mgi mfi mle mst msu mtr mdi mfa mca) ⟨hx, hb, hml, hown, hts⟩ (K_X4_cellOf l D cI cZ md H.size mth msz mrn mmy mdf mgu mhs mlv mba mgi mfi mle mst msu mtr mdi mfa mca v4_5 v6_34 _ hy51) (cwV 2 hts gX4_isGood_X4_cellOf rfl rfl rfl (by decide +kernel) ⟨Nat.le_of_ble_eq_true rfl, Nat.le_of_ble_eq_true rfl⟩) hK hP hD hS hA hl.1 [0, 1, 2, 3, 4, 5, 6, 7, 8, 9, 10] (by decide) rfl rfl rfl 4 0 rfl rfl rfl rfl rfl (Nat.le_of_ble_eq_true rfl) dX4_isGood_51 ⟨Nat.le_of_ble_eq_true rfl, Nat.le_of_ble_eq_true rfl⟩ (fun H locs hP hD hS => ?_)
                  refine lv_istore (lv' := [(7, .int x51), (0, .ref (md 0)), (1, .int p1), (2, .int p2), (3, .int v3_34), (4, .int v4_5), (5, .int v5_34), (6, .int v6_34)]) hx hb dX4_isGood_54 hl (by decide) rfl (fun ls hl => ?_)
                  refine lv_iload_n hx hb dX4_isGood_56 rfl (lv_at hl 4 rfl) ?_
                  obtain ⟨k82, hk82, hf⟩ := jn_some hf
                  have w82 : ∀ (t0_82 : Int32), k82 t0_82 = some r → ∀ (H : Heap) (locs : List Loc) (ls : Array Slot), va_P D vwCl (wM cI cZ md mth msz mrn mmy mdf mgu mhs mlv mba mgi mfi mle mst msu mtr mdi mfa mca) H → va_D A (wM cI cZ md mth msz mrn mmy mdf mgu mhs mlv mba mgi mfi mle mst msu mtr mdi mfa mca) → va_S A s.heap H locs → lv_has ls 8 [(0, .ref (md 0)), (1, .int p1), (2, .int p2), (4, .int v4_5), (5, .int v5_34), (6, .int v6_34), (7, .int x51)] → W p l e rm_X4_isGood s m args below meth c H locs 0 0 Q (F0 m 82 ls [.int t0_82]) := by
                    intro t0_82 hf H locs ls hP hD hS hl
                    rw [hk82] at hf
                    try dsimp only at hf
                    refine lv_istore_n (lv' := [(3, .int t0_82), (0, .ref (md 0)), (1, .int p1), (2, .int p2), (4, .int v4_5), (5, .int v5_34), (6, .int v6_34), (7, .int x51)]) hx hb dX4_isGood_82 rfl hl (by decide) rfl (fun ls hl => ?_)
                    refine lv_iload hx hb dX4_isGood_83 (lv_at hl 5 rfl) ?_
                    obtain ⟨k109, hk109, hf⟩ := jn_some hf
                    have w109 : ∀ (t0_109 : Int32), k109 t0_109 = some r → ∀ (H : Heap) (locs : List Loc) (ls : Array Slot), va_P D vwCl (wM cI cZ md mth msz mrn mmy mdf mgu mhs mlv mba mgi mfi mle mst msu mtr mdi mfa mca) H → va_D A (wM cI cZ md mth msz mrn mmy mdf mgu mhs mlv mba mgi mfi mle mst msu mtr mdi mfa mca) → va_S A s.heap H locs → lv_has ls 8 [(0, .ref (md 0)), (1, .int p1), (2, .int p2), (3, .int t0_82), (4, .int v4_5), (6, .int v6_34)] → W p l e rm_X4_isGood s m args below meth c H locs 0 0 Q (F0 m 109 ls [.int t0_109]) := by
                      intro t0_109 hf H locs ls hP hD hS hl
                      rw [hk109] at hf
                      try dsimp only at hf
                      refine lv_istore (lv' := [(5, .int t0_109), (0, .ref (md 0)), (1, .int p1), (2, .int p2), (3, .int t0_82), (4, .int v4_5), (6, .int v6_34)]) hx hb dX4_isGood_109 hl (by decide) rfl (fun ls hl => ?_)
                      refine lv_iinc (v := (v6_34 + 1)) (lv' := [(6, .int (v6_34 + 1)), (5, .int t0_109), (0, .ref (md 0)), (1, .int p1), (2, .int p2), (3, .int t0_82), (4, .int v4_5)]) hx hb dX4_isGood_111 hl (k := 6) rfl rfl (by decide) rfl (fun ls hl => ?_)
                      refine lv_goto (tgt := 34) hx hb dX4_isGood_114 (by decide) ?_
                      exact ih34 t0_82 t0_109 (v6_34 + 1) hf _ _ _ hP hD hS (lv_sub hl [2, 3, 4, 5, 6, 1, 0] rfl)
                    obtain ⟨k108, hk108, hf⟩ := jn_some hf
                    have w108 : ∀ (_ : Unit), k108 () = some r → ∀ (H : Heap) (locs : List Loc) (ls : Array Slot), va_P D vwCl (wM cI cZ md mth msz mrn mmy mdf mgu mhs mlv mba mgi mfi mle mst msu mtr mdi mfa mca) H → va_D A (wM cI cZ md mth msz mrn mmy mdf mgu mhs mlv mba mgi mfi mle mst msu mtr mdi mfa mca) → va_S A s.heap H locs → lv_has ls 8 [(0, .ref (md 0)), (1, .int p1), (2, .int p2), (3, .int t0_82), (4, .int v4_5), (6, .int v6_34)] → W p l e rm_X4_isGood s m args below meth c H locs 0 0 Q (F0 m 108 ls []) := by
                      intro _ hf H locs ls hP hD hS hl
                      rw [hk108] at hf
                      try dsimp only at hf
                      refine lv_iconst (v := 0) hx hb dX4_isGood_108 (by decide) ?_
                      exact w109 0 hf _ _ _ hP hD hS (lv_sub hl [0, 1, 2, 3, 4, 5] rfl)
                    refine lv_if_eq (tgt := 108) hx hb dX4_isGood_85 (by decide) (fun c_85 => ?_) (fun c_85 => ?_)
                    · have hf := ite_t c_85 hf
                      exact w108 () hf _ _ _ hP hD hS (lv_sub hl [1, 2, 3, 0, 4, 6] rfl)
                    · have hf := ite_f c_85 hf
                      refine lv_iload hx hb dX4_isGood_88 (lv_at hl 7 rfl) ?_
                      refine lv_iload_n hx hb dX4_isGood_90 rfl (lv_at hl 2 rfl) ?_
                      obtain ⟨k104, hk104, hf⟩ := jn_some hf
                      have w104 : ∀ (_ : Unit), k104 () = some r → ∀ (H : Heap) (locs : List Loc) (ls : Array Slot), va_P D vwCl (wM cI cZ md mth msz mrn mmy mdf mgu mhs mlv mba mgi mfi mle mst msu mtr mdi mfa mca) H → va_D A (wM cI cZ md mth msz mrn mmy mdf mgu mhs mlv mba mgi mfi mle mst msu mtr mdi mfa mca) → va_S A s.heap H locs → lv_has ls 8 [(0, .ref (md 0)), (1, .int p1), (2, .int p2), (3, .int t0_82), (4, .int v4_5), (6, .int v6_34)] → W p l e rm_X4_isGood s m args below meth c H locs 0 0 Q (F0 m 104 ls []) := by
                        intro _ hf H locs ls hP hD hS hl
                        rw [hk104] at hf
                        try dsimp only at hf
                        refine lv_iconst (v := 1) hx hb dX4_isGood_104 (by decide) ?_
                        refine lv_goto (tgt := 109) hx hb dX4_isGood_105 (by decide) ?_
                        exact w109 1 hf _ _ _ hP hD hS (lv_sub hl [0, 1, 2, 3, 4, 5] rfl)
                      refine lv_icmp_eq (tgt := 104) hx hb dX4_isGood_91 (by decide) (fun c_91 => ?_) (fun c_91 => ?_)
                      · have hf := ite_t c_91 hf
                        exact w104 () hf _ _ _ hP hD hS (lv_sub hl [1, 2, 3, 0, 4, 6] rfl)
                      · have hf := ite_f c_91 hf
                        refine lv_aload_n hx hb dX4_isGood_94 rfl (lv_at hl 1 rfl) ?_
                        refine va_get (D := D) (ci := 4) (v := .ref (md 8)) (C := RX4) (T := TX4) (N := 18) hx hb hts hinX4 hown hK.1 hP 0 rfl rfl 11 (by decide) (hts (.fieldLink RX4 36 "GridpuzzleModel" "digits" "[I") (by decide +kernel)) (fun _ h9 => h9) rfl dX4_isGood_95 ?_
                        refine lv_iload hx hb dX4_isGood_98 (lv_at hl 7 rfl) ?_
                        obtain ⟨hz100, hf⟩ := gd_some hf
                        refine va_iald hx hb hK.1 hP 8 0 rfl rfl hz100 dX4_isGood_100 ?_
                        refine lv_if_le (tgt := 108) hx hb dX4_isGood_101 (by decide) (fun c_101 => ?_) (fun c_101 => ?_)
                        · have hf := ite_t c_101 hf
                          exact w108 () hf _ _ _ hP hD hS (lv_sub hl [1, 2, 3, 0, 4, 6] rfl)
                        · have hf := ite_f c_101 hf
                          exact w104 () hf _ _ _ hP hD hS (lv_sub hl [1, 2, 3, 0, 4, 6] rfl)
                  obtain ⟨k81, hk81, hf⟩ := jn_some hf
                  have w81 : ∀ (_ : Unit), k81 () = some r → ∀ (H : Heap) (locs : List Loc) (ls : Array Slot), va_P D vwCl (wM cI cZ md mth msz mrn mmy mdf mgu mhs mlv mba mgi mfi mle mst msu mtr mdi mfa mca) H → va_D A (wM cI cZ md mth msz mrn mmy mdf mgu mhs mlv mba mgi mfi mle mst msu mtr mdi mfa mca) → va_S A s.heap H locs → lv_has ls 8 [(0, .ref (md 0)), (1, .int p1), (2, .int p2), (4, .int v4_5), (5, .int v5_34), (6, .int v6_34), (7, .int x51)] → W p l e rm_X4_isGood s m args below meth c H locs 0 0 Q (F0 m 81 ls []) := by
                    intro _ hf H locs ls hP hD hS hl
                    rw [hk81] at hf
                    try dsimp only at hf
                    refine lv_iconst (v := 0) hx hb dX4_isGood_81 (by decide) ?_
                    exact w82 0 hf _ _ _ hP hD hS (lv_sub hl [0, 1, 2, 3, 4, 5, 6] rfl)
                  refine lv_if_eq (tgt := 81) hx hb dX4_isGood_57 (by decide) (fun c_57 => ?_) (fun c_57 => ?_)
                  · have hf := ite_t c_57 hf
                    exact w81 () hf _ _ _ hP hD hS (lv_sub hl [1, 2, 3, 5, 6, 7, 0] rfl)
                  · have hf := ite_f c_57 hf
                    refine lv_iload hx hb dX4_isGood_60 (lv_at hl 0 rfl) ?_
                    refine lv_iload_n hx hb dX4_isGood_62 rfl (lv_at hl 2 rfl) ?_
                    obtain ⟨k77, hk77, hf⟩ := jn_some hf
                    have w77 : ∀ (_ : Unit), k77 () = some r → ∀ (H : Heap) (locs : List Loc) (ls : Array Slot), va_P D vwCl (wM cI cZ md mth msz mrn mmy mdf mgu mhs mlv mba mgi mfi mle mst msu mtr mdi mfa mca) H → va_D A (wM cI cZ md mth msz mrn mmy mdf mgu mhs mlv mba mgi mfi mle mst msu mtr mdi mfa mca) → va_S A s.heap H locs → lv_has ls 8 [(0, .ref (md 0)), (1, .int p1), (2, .int p2), (4, .int v4_5), (5, .int v5_34), (6, .int v6_34), (7, .int x51)] → W p l e rm_X4_isGood s m args below meth c H locs 0 0 Q (F0 m 77 ls []) := by
                      intro _ hf H locs ls hP hD hS hl
                      rw [hk77] at hf
                      try dsimp only at hf
                      refine lv_iconst (v := 1) hx hb dX4_isGood_77 (by decide) ?_
                      refine lv_goto (tgt := 82) hx hb dX4_isGood_78 (by decide) ?_
                      exact w82 1 hf _ _ _ hP hD hS (lv_sub hl [0, 1, 2, 3, 4, 5, 6] rfl)
                    refine lv_icmp_eq (tgt := 77) hx hb dX4_isGood_63 (by decide) (fun c_63 => ?_) (fun c_63 => ?_)
                    · have hf := ite_t c_63 hf
                      exact w77 () hf _ _ _ hP hD hS (lv_sub hl [1, 2, 3, 5, 6, 7, 0] rfl)
                    · have hf := ite_f c_63 hf
                      refine lv_aload_n hx hb dX4_isGood_66 rfl (lv_at hl 1 rfl) ?_
                      refine va_get (D := D) (ci := 4) (v := .ref (md 8)) (C := RX4) (T := TX4) (N := 18) hx hb hts hinX4 hown hK.1 hP 0 rfl rfl 11 (by decide) (hts (.fieldLink RX4 36 "GridpuzzleModel" "digits" "[I") (by decide +kernel)) (fun _ h9 => h9) rfl dX4_isGood_67 ?_
                      refine lv_iload hx hb dX4_isGood_70 (lv_at hl 0 rfl) ?_
                      obtain ⟨hz72, hf⟩ := gd_some hf
                      refine va_iald hx hb hK.1 hP 8 0 rfl rfl hz72 dX4_isGood_72 ?_
                      refine lv_iload_n hx hb dX4_isGood_73 rfl (lv_at hl 3 rfl) ?_
                      refine lv_icmp_eq (tgt := 81) hx hb dX4_isGood_74 (by decide) (fun c_74 => ?_) (fun c_74 => ?_)
                      · have hf := ite_t c_74 hf
                        exact w81 () hf _ _ _ hP hD hS (lv_sub hl [1, 2, 3, 5, 6, 7, 0] rfl)
                      · have hf := ite_f c_74 hf
                        exact w77 () hf _ _ _ hP hD hS (lv_sub hl [1, 2, 3, 5, 6, 7, 0] rfl)
            exact l34 N v3_5 1 0 hf _ _ _ hP hD hS (lv_sub hl [2, 3, 4, 5, 6, 1, 0] rfl)
  exact l5 N 1 0 hf _ _ _ hP hD hS (lv_sub hl [2, 3, 4, 1, 0] rfl)
def rm_X4_layTried : Room := { frames := 3, cells := 0, slots := 0, locals := 64 }
set_option maxRecDepth 100000 in
set_option maxHeartbeats 8000000 in
theorem K_X4_layTried (l : Launch) (D : va_G) (cI cZ : ClassId) (md : Nat → Nat) (sz : Nat) (N : Nat) (mth msz mrn mmy mdf mgu mhs mlv : Int32) (mba mgi mfi mle mst msu mtr mdi mfa mca : Nat → Int32) (r : (Int32 × (Nat → Int32) × (Nat → Int32))) (hf : f_X4_layTried N msz mmy mba mgi mtr mdi = some r) : Met l yX4_layTried wsX4_layTried rm_X4_layTried (PC D cI cZ sz [.ref (md 0)] (wM cI cZ md mth msz mrn mmy mdf mgu mhs mlv mba mgi mfi mle mst msu mtr mdi mfa mca)) (QV D cI cZ sz (wM cI cZ md mth msz mrn mmy mdf mgu mhs mlv mba mgi mfi mle mst msu mtr mdi mfa mca) (wM cI cZ md mth msz mrn r.1 mdf mgu mhs mlv mba mgi mfi mle mst msu r.2.1 r.2.2 mfa mca)) 0 0 (va_A (wM cI cZ md mth msz mrn mmy mdf mgu mhs mlv mba mgi mfi mle mst msu mtr mdi mfa mca) sz) := by
  refine mk_v (cc := cX4_layTried) (maxL := 2) (lv0 := [(0, .ref (md 0))]) (by decide) rfl (Nat.le_of_ble_eq_true rfl) rfl ?_
  intro p e s m args below meth c ls A Q H hx hb hml hown hts hK hP hD hA hS hl hR
  have hinX4 : ∀ w ∈ wsX40, w ∈ wsX4_layTried := by decide +kernel
  rw [f_X4_layTried] at hf
  refine lv_aload_n hx hb dX4_layTried_0 rfl (lv_at hl 0 rfl) ?_
  obtain ⟨x1, hy1, hf⟩ := Option.bind_eq_some_iff.mp hf
  refine clV_v (As := []) (rest := []) (wM cI cZ md mth msz mrn mmy mdf mgu mhs mlv mba mgi mfi mle mst msu mtr x1 mfa mca) ⟨hx, hb, hml, hown, hts⟩ (K_X4_copyGiven l D cI cZ md H.size N mth msz mrn mmy mdf mgu mhs mlv mba mgi mfi mle mst msu mtr mdi mfa mca _ hy1) (cwV 0 hts gX4_layTried_X4_copyGiven rfl rfl rfl (by decide +kernel) ⟨Nat.le_of_ble_eq_true rfl, Nat.le_of_ble_eq_true rfl⟩) hK hP hD hS hA hl.1 [0, 1, 2, 3, 4, 5, 6, 7, 8, 9, 10] (by decide) rfl rfl rfl 4 0 rfl rfl rfl rfl rfl (Nat.le_of_ble_eq_true rfl) dX4_layTried_1 ⟨Nat.le_of_ble_eq_true rfl, Nat.le_of_ble_eq_true rfl⟩ (fun H locs hP hD hS => ?_)
  refine lv_aload_n hx hb dX4_layTried_4 rfl (lv_at hl 0 rfl) ?_
  refine lv_iconst (v := 0) hx hb dX4_layTried_5 (by decide) ?_
  refine va_put (D := D) (ci := 4) (v := .int 0) (ty := .int) (C := RX4) (T := TX4) (N := 18) hx hb hts hinX4 tyX4 tyX4_ok nmX4 hown hK.1 hP hD hS 0 rfl rfl 10 (by decide) (hts (.fieldLink RX4 97 "GridpuzzleModel" "many" "I") (by decide +kernel)) (fun _ h9 => h9) rfl (by decide +kernel) rfl rfl (Nat.le_of_ble_eq_true rfl) dX4_layTried_6 (fun H locs hP hD hS => ?_)
  have hP : va_P D vwCl (wM cI cZ md mth msz mrn 0 mdf mgu mhs mlv mba mgi mfi mle mst msu mtr x1 mfa mca) H := hP
  have hD : va_D A (wM cI cZ md mth msz mrn 0 mdf mgu mhs mlv mba mgi mfi mle mst msu mtr x1 mfa mca) := hD
  refine lv_iconst (v := 0) hx hb dX4_layTried_9 (by decide) ?_
  refine lv_istore_n (lv' := [(1, .int 0), (0, .ref (md 0))]) hx hb dX4_layTried_10 rfl hl (by decide) rfl (fun ls hl => ?_)
  have l11 : ∀ (nn : Nat) (v1_11 : Int32) (mmy_11 : Int32) (mtr_11 : Nat → Int32), f_X4_layTried_L11 msz mba mgi x1 nn v1_11 mmy_11 mtr_11 = some r → ∀ (H : Heap) (locs : List Loc) (ls : Array Slot), va_P D vwCl (wM cI cZ md mth msz mrn mmy_11 mdf mgu mhs mlv mba mgi mfi mle mst msu mtr_11 x1 mfa mca) H → va_D A (wM cI cZ md mth msz mrn mmy_11 mdf mgu mhs mlv mba mgi mfi mle mst msu mtr_11 x1 mfa mca) → va_S A s.heap H locs → lv_has ls 2 [(0, .ref (md 0)), (1, .int v1_11)] → W p l e rm_X4_layTried s m args below meth c H locs 0 0 Q (F0 m 11 ls []) := by
    intro nn
    induction nn with
    | zero => intro _ _ _ hf; exact nomatch (show (none : Option _) = some r from hf)
    | succ n11 ih11 =>
      intro v1_11 mmy_11 mtr_11 hf H locs ls hP hD hS hl
      rw [f_X4_layTried_L11.eq_2] at hf
      refine lv_iload_n hx hb dX4_layTried_11 rfl (lv_at hl 1 rfl) ?_
      refine lv_bipush (v := 16) hx hb dX4_layTried_12 (by decide) ?_
      refine lv_icmp_ge (tgt := 60) hx hb dX4_layTried_14 (by decide) (fun c_14 => ?_) (fun c_14 => ?_)
      · have hf := ite_t c_14 hf
        cases hf
        exact hR _ _ _ _ _ rfl hP hD hS dX4_layTried_60
      · have hf := ite_f c_14 hf
        refine lv_aload_n hx hb dX4_layTried_17 rfl (lv_at hl 0 rfl) ?_
        refine lv_iload_n hx hb dX4_layTried_18 rfl (lv_at hl 1 rfl) ?_
        obtain ⟨x19, hy19, hf⟩ := Option.bind_eq_some_iff.mp hf
        refine clV_i (As := [.int v1_11]) (rest := []) (wM cI cZ md mth msz mrn mmy_11 mdf mgu mhs mlv mba mgi mfi mle mst msu mtr_11 x1 mfa mca) ⟨hx, hb, hml, hown, hts⟩ (K_X4_isOpen l D cI cZ md H.size mth msz mrn mmy_11 mdf mgu mhs mlv mba mgi mfi mle mst msu mtr_11 x1 mfa mca v1_11 _ hy19) (cwV 1 hts gX4_layTried_X4_isOpen rfl rfl rfl (by decide +kernel) ⟨Nat.le_of_ble_eq_true rfl, Nat.le_of_ble_eq_true rfl⟩) hK hP hD hS hA hl.1 [0, 1, 2, 3, 4, 5, 6, 7, 8, 9, 10] (by decide) rfl rfl rfl 4 0 rfl rfl rfl rfl rfl (Nat.le_of_ble_eq_true rfl) dX4_layTried_19 ⟨Nat.le_of_ble_eq_true rfl, Nat.le_of_ble_eq_true rfl⟩ (fun H locs hP hD hS => ?_)
        obtain ⟨k54, hk54, hf⟩ := jn_some hf
        have w54 : ∀ (mmy_54 : Int32) (mtr_54 : Nat → Int32), k54 mmy_54 mtr_54 = some r → ∀ (H : Heap) (locs : List Loc) (ls : Array Slot), va_P D vwCl (wM cI cZ md mth msz mrn mmy_54 mdf mgu mhs mlv mba mgi mfi mle mst msu mtr_54 x1 mfa mca) H → va_D A (wM cI cZ md mth msz mrn mmy_54 mdf mgu mhs mlv mba mgi mfi mle mst msu mtr_54 x1 mfa mca) → va_S A s.heap H locs → lv_has ls 2 [(0, .ref (md 0)), (1, .int v1_11)] → W p l e rm_X4_layTried s m args below meth c H locs 0 0 Q (F0 m 54 ls []) := by
          intro mmy_54 mtr_54 hf H locs ls hP hD hS hl
          rw [hk54] at hf
          try dsimp only at hf
          refine lv_iinc (v := (v1_11 + 1)) (lv' := [(1, .int (v1_11 + 1)), (0, .ref (md 0))]) hx hb dX4_layTried_54 hl (k := 1) rfl rfl (by decide) rfl (fun ls hl => ?_)
          refine lv_goto (tgt := 11) hx hb dX4_layTried_57 (by decide) ?_
          exact ih11 (v1_11 + 1) mmy_54 mtr_54 hf _ _ _ hP hD hS (lv_sub hl [1, 0] rfl)
        refine lv_if_eq (tgt := 54) hx hb dX4_layTried_22 (by decide) (fun c_22 => ?_) (fun c_22 => ?_)
        · have hf := ite_t c_22 hf
          exact w54 mmy_11 mtr_11 hf _ _ _ hP hD hS (lv_sub hl [0, 1] rfl)
        · have hf := ite_f c_22 hf
          refine lv_aload_n hx hb dX4_layTried_25 rfl (lv_at hl 0 rfl) ?_
          refine va_get (D := D) (ci := 4) (v := .ref (md 2)) (C := RX4) (T := TX4) (N := 18) hx hb hts hinX4 hown hK.1 hP 0 rfl rfl 3 (by decide) (hts (.fieldLink RX4 17 "GridpuzzleModel" "given" "[I") (by decide +kernel)) (fun _ h9 => h9) rfl dX4_layTried_26 ?_
          refine lv_iload_n hx hb dX4_layTried_29 rfl (lv_at hl 1 rfl) ?_
          obtain ⟨hz30, hf⟩ := gd_some hf
          refine va_iald hx hb hK.1 hP 2 0 rfl rfl hz30 dX4_layTried_30 ?_
          refine lv_if_ne (tgt := 54) hx hb dX4_layTried_31 (by decide) (fun c_31 => ?_) (fun c_31 => ?_)
          · have hf := ite_f c_31 hf
            exact w54 mmy_11 mtr_11 hf _ _ _ hP hD hS (lv_sub hl [0, 1] rfl)
          · have hf := ite_t c_31 hf
            refine lv_aload_n hx hb dX4_layTried_34 rfl (lv_at hl 0 rfl) ?_
            refine va_get (D := D) (ci := 4) (v := .ref (md 7)) (C := RX4) (T := TX4) (N := 18) hx hb hts hinX4 hown hK.1 hP 0 rfl rfl 9 (by decide) (hts (.fieldLink RX4 33 "GridpuzzleModel" "tried" "[I") (by decide +kernel)) (fun _ h9 => h9) rfl dX4_layTried_35 ?_
            refine lv_aload_n hx hb dX4_layTried_38 rfl (lv_at hl 0 rfl) ?_
            refine va_get (D := D) (ci := 4) (v := .int mmy_11) (C := RX4) (T := TX4) (N := 18) hx hb hts hinX4 hown hK.1 hP 0 rfl rfl 10 (by decide) (hts (.fieldLink RX4 97 "GridpuzzleModel" "many" "I") (by decide +kernel)) (fun _ h9 => h9) rfl dX4_layTried_39 ?_
            refine lv_iload_n hx hb dX4_layTried_42 rfl (lv_at hl 1 rfl) ?_
            obtain ⟨hz43, hf⟩ := gd_some hf
            refine va_iast hx hb hK.1 hP hD hS 7 0 rfl rfl hz43 dX4_layTried_43 (fun H locs hP hD hS => ?_)
            have hP : va_P D vwCl (wM cI cZ md mth msz mrn mmy_11 mdf mgu mhs mlv mba mgi mfi mle mst msu (upd mtr_11 ((mmy_11 : Int32)).toNatClampNeg v1_11) x1 mfa mca) H := hP
            have hD : va_D A (wM cI cZ md mth msz mrn mmy_11 mdf mgu mhs mlv mba mgi mfi mle mst msu (upd mtr_11 ((mmy_11 : Int32)).toNatClampNeg v1_11) x1 mfa mca) := hD
            refine lv_aload_n hx hb dX4_layTried_44 rfl (lv_at hl 0 rfl) ?_
            refine lv_dup hx hb dX4_layTried_45 rfl ?_
            refine va_get (D := D) (ci := 4) (v := .int mmy_11) (C := RX4) (T := TX4) (N := 18) hx hb hts hinX4 hown hK.1 hP 0 rfl rfl 10 (by decide) (hts (.fieldLink RX4 97 "GridpuzzleModel" "many" "I") (by decide +kernel)) (fun _ h9 => h9) rfl dX4_layTried_46 ?_
            refine lv_iconst (v := 1) hx hb dX4_layTried_49 (by decide) ?_
            refine lv_iadd hx hb dX4_layTried_50 ?_
            refine va_put (D := D) (ci := 4) (v := .int (mmy_11 + 1)) (ty := .int) (C := RX4) (T := TX4) (N := 18) hx hb hts hinX4 tyX4 tyX4_ok nmX4 hown hK.1 hP hD hS 0 rfl rfl 10 (by decide) (hts (.fieldLink RX4 97 "GridpuzzleModel" "many" "I") (by decide +kernel)) (fun _ h9 => h9) rfl (by decide +kernel) rfl rfl (Nat.le_of_ble_eq_true rfl) dX4_layTried_51 (fun H locs hP hD hS => ?_)
            have hP : va_P D vwCl (wM cI cZ md mth msz mrn (mmy_11 + 1) mdf mgu mhs mlv mba mgi mfi mle mst msu (upd mtr_11 ((mmy_11 : Int32)).toNatClampNeg v1_11) x1 mfa mca) H := hP
            have hD : va_D A (wM cI cZ md mth msz mrn (mmy_11 + 1) mdf mgu mhs mlv mba mgi mfi mle mst msu (upd mtr_11 ((mmy_11 : Int32)).toNatClampNeg v1_11) x1 mfa mca) := hD
            exact w54 (mmy_11 + 1) (upd mtr_11 ((mmy_11 : Int32)).toNatClampNeg v1_11) hf _ _ _ hP hD hS (lv_sub hl [0, 1] rfl)
  exact l11 N 0 0 mtr hf _ _ _ hP hD hS (lv_sub hl [1, 0] rfl)
def rm_X4_keep : Room := { frames := 0, cells := 0, slots := 0, locals := 0 }
set_option maxRecDepth 100000 in
set_option maxHeartbeats 8000000 in
theorem K_X4_keep (l : Launch) (D : va_G) (cI cZ : ClassId) (md : Nat → Nat) (sz : Nat) (N : Nat) (mth msz mrn mmy mdf mgu mhs mlv : Int32) (mba mgi mfi mle mst msu mtr mdi mfa mca : Nat → Int32) (p1 : Int32) (r : (Int32 × (Nat → Int32))) (hf : f_X4_keep N mdf mdi mfa p1 = some r) : Met l yX4_keep wsX4_keep rm_X4_keep (PC D cI cZ sz [.ref (md 0), .int p1] (wM cI cZ md mth msz mrn mmy mdf mgu mhs mlv mba mgi mfi mle mst msu mtr mdi mfa mca)) (QV D cI cZ sz (wM cI cZ md mth msz mrn mmy mdf mgu mhs mlv mba mgi mfi mle mst msu mtr mdi mfa mca) (wM cI cZ md mth msz mrn mmy r.1 mgu mhs mlv mba mgi mfi mle mst msu mtr mdi r.2 mca)) 0 0 (va_A (wM cI cZ md mth msz mrn mmy mdf mgu mhs mlv mba mgi mfi mle mst msu mtr mdi mfa mca) sz) := by
  refine mk_v (cc := cX4_keep) (maxL := 3) (lv0 := [(0, .ref (md 0)), (1, .int p1)]) (by decide) rfl (Nat.le_of_ble_eq_true rfl) rfl ?_
  intro p e s m args below meth c ls A Q H hx hb hml hown hts hK hP hD hA hS hl hR
  have hinX4 : ∀ w ∈ wsX40, w ∈ wsX4_keep := by decide +kernel
  rw [f_X4_keep] at hf
  refine lv_bipush (v := 15) hx hb dX4_keep_0 (by decide) ?_
  refine lv_istore_n (lv' := [(2, .int 15), (0, .ref (md 0)), (1, .int p1)]) hx hb dX4_keep_2 rfl hl (by decide) rfl (fun ls hl => ?_)
  obtain ⟨k45, hk45, hf⟩ := jn_some hf
  have w45 : ∀ (mdf_45 : Int32), k45 mdf_45 = some r → ∀ (H : Heap) (locs : List Loc) (ls : Array Slot), va_P D vwCl (wM cI cZ md mth msz mrn mmy mdf_45 mgu mhs mlv mba mgi mfi mle mst msu mtr mdi mfa mca) H → va_D A (wM cI cZ md mth msz mrn mmy mdf_45 mgu mhs mlv mba mgi mfi mle mst msu mtr mdi mfa mca) → va_S A s.heap H locs → lv_has ls 3 [(0, .ref (md 0)), (1, .int p1)] → W p l e rm_X4_keep s m args below meth c H locs 0 0 Q (F0 m 45 ls []) := by
    intro mdf_45 hf H locs ls hP hD hS hl
    rw [hk45] at hf
    try dsimp only at hf
    refine lv_iconst (v := 0) hx hb dX4_keep_45 (by decide) ?_
    refine lv_istore_n (lv' := [(2, .int 0), (0, .ref (md 0)), (1, .int p1)]) hx hb dX4_keep_46 rfl hl (by decide) rfl (fun ls hl => ?_)
    have l47 : ∀ (nn : Nat) (v2_47 : Int32) (mfa_47 : Nat → Int32), f_X4_keep_L47 p1 mdf_45 mdi nn v2_47 mfa_47 = some r → ∀ (H : Heap) (locs : List Loc) (ls : Array Slot), va_P D vwCl (wM cI cZ md mth msz mrn mmy mdf_45 mgu mhs mlv mba mgi mfi mle mst msu mtr mdi mfa_47 mca) H → va_D A (wM cI cZ md mth msz mrn mmy mdf_45 mgu mhs mlv mba mgi mfi mle mst msu mtr mdi mfa_47 mca) → va_S A s.heap H locs → lv_has ls 3 [(0, .ref (md 0)), (1, .int p1), (2, .int v2_47)] → W p l e rm_X4_keep s m args below meth c H locs 0 0 Q (F0 m 47 ls []) := by
      intro nn
      induction nn with
      | zero => intro _ _ hf; exact nomatch (show (none : Option _) = some r from hf)
      | succ n47 ih47 =>
        intro v2_47 mfa_47 hf H locs ls hP hD hS hl
        rw [f_X4_keep_L47.eq_2] at hf
        refine lv_iload_n hx hb dX4_keep_47 rfl (lv_at hl 2 rfl) ?_
        refine lv_bipush (v := 16) hx hb dX4_keep_48 (by decide) ?_
        refine lv_icmp_ge (tgt := 76) hx hb dX4_keep_50 (by decide) (fun c_50 => ?_) (fun c_50 => ?_)
        · have hf := ite_t c_50 hf
          cases hf
          exact hR _ _ _ _ _ rfl hP hD hS dX4_keep_76
        · have hf := ite_f c_50 hf
          refine lv_iload_n hx hb dX4_keep_53 rfl (lv_at hl 1 rfl) ?_
          refine lv_iconst (v := 1) hx hb dX4_keep_54 (by decide) ?_
          refine lv_icmp_ne (tgt := 76) hx hb dX4_keep_55 (by decide) (fun c_55 => ?_) (fun c_55 => ?_)
          · have hf := ite_f c_55 hf
            cases hf
            exact hR _ _ _ _ _ rfl hP hD hS dX4_keep_76
          · have hf := ite_t c_55 hf
            refine lv_aload_n hx hb dX4_keep_58 rfl (lv_at hl 0 rfl) ?_
            refine va_get (D := D) (ci := 4) (v := .ref (md 9)) (C := RX4) (T := TX4) (N := 18) hx hb hts hinX4 hown hK.1 hP 0 rfl rfl 12 (by decide) (hts (.fieldLink RX4 39 "GridpuzzleModel" "firstAnswer" "[I") (by decide +kernel)) (fun _ h9 => h9) rfl dX4_keep_59 ?_
            refine lv_iload_n hx hb dX4_keep_62 rfl (lv_at hl 2 rfl) ?_
            refine lv_aload_n hx hb dX4_keep_63 rfl (lv_at hl 0 rfl) ?_
            refine va_get (D := D) (ci := 4) (v := .ref (md 8)) (C := RX4) (T := TX4) (N := 18) hx hb hts hinX4 hown hK.1 hP 0 rfl rfl 11 (by decide) (hts (.fieldLink RX4 36 "GridpuzzleModel" "digits" "[I") (by decide +kernel)) (fun _ h9 => h9) rfl dX4_keep_64 ?_
            refine lv_iload_n hx hb dX4_keep_67 rfl (lv_at hl 2 rfl) ?_
            obtain ⟨hz68, hf⟩ := gd_some hf
            refine va_iald hx hb hK.1 hP 8 0 rfl rfl hz68 dX4_keep_68 ?_
            obtain ⟨hz69, hf⟩ := gd_some hf
            refine va_iast hx hb hK.1 hP hD hS 9 0 rfl rfl hz69 dX4_keep_69 (fun H locs hP hD hS => ?_)
            have hP : va_P D vwCl (wM cI cZ md mth msz mrn mmy mdf_45 mgu mhs mlv mba mgi mfi mle mst msu mtr mdi (upd mfa_47 ((v2_47 : Int32)).toNatClampNeg (mdi ((v2_47 : Int32)).toNatClampNeg)) mca) H := hP
            have hD : va_D A (wM cI cZ md mth msz mrn mmy mdf_45 mgu mhs mlv mba mgi mfi mle mst msu mtr mdi (upd mfa_47 ((v2_47 : Int32)).toNatClampNeg (mdi ((v2_47 : Int32)).toNatClampNeg)) mca) := hD
            refine lv_iinc (v := (v2_47 + 1)) (lv' := [(2, .int (v2_47 + 1)), (0, .ref (md 0)), (1, .int p1)]) hx hb dX4_keep_70 hl (k := 2) rfl rfl (by decide) rfl (fun ls hl => ?_)
            refine lv_goto (tgt := 47) hx hb dX4_keep_73 (by decide) ?_
            exact ih47 (v2_47 + 1) (upd mfa_47 ((v2_47 : Int32)).toNatClampNeg (mdi ((v2_47 : Int32)).toNatClampNeg)) hf _ _ _ hP hD hS (lv_sub hl [1, 2, 0] rfl)
    exact l47 N 0 mfa hf _ _ _ hP hD hS (lv_sub hl [1, 2, 0] rfl)
  have l3 : ∀ (nn : Nat) (v2_3 : Int32) (mdf_3 : Int32), f_X4_keep_L3 p1 mdi mfa k45 nn v2_3 mdf_3 = some r → ∀ (H : Heap) (locs : List Loc) (ls : Array Slot), va_P D vwCl (wM cI cZ md mth msz mrn mmy mdf_3 mgu mhs mlv mba mgi mfi mle mst msu mtr mdi mfa mca) H → va_D A (wM cI cZ md mth msz mrn mmy mdf_3 mgu mhs mlv mba mgi mfi mle mst msu mtr mdi mfa mca) → va_S A s.heap H locs → lv_has ls 3 [(0, .ref (md 0)), (1, .int p1), (2, .int v2_3)] → W p l e rm_X4_keep s m args below meth c H locs 0 0 Q (F0 m 3 ls []) := by
    intro nn
    induction nn with
    | zero => intro _ _ hf; exact nomatch (show (none : Option _) = some r from hf)
    | succ n3 ih3 =>
      intro v2_3 mdf_3 hf H locs ls hP hD hS hl
      rw [f_X4_keep_L3.eq_2] at hf
      refine lv_iload_n hx hb dX4_keep_3 rfl (lv_at hl 2 rfl) ?_
      refine lv_if_lt (tgt := 45) hx hb dX4_keep_4 (by decide) (fun c_4 => ?_) (fun c_4 => ?_)
      · have hf := ite_t c_4 hf
        exact w45 mdf_3 hf _ _ _ hP hD hS (lv_sub hl [0, 1] rfl)
      · have hf := ite_f c_4 hf
        refine lv_iload_n hx hb dX4_keep_7 rfl (lv_at hl 1 rfl) ?_
        refine lv_iconst (v := 2) hx hb dX4_keep_8 (by decide) ?_
        refine lv_icmp_ne (tgt := 45) hx hb dX4_keep_9 (by decide) (fun c_9 => ?_) (fun c_9 => ?_)
        · have hf := ite_f c_9 hf
          exact w45 mdf_3 hf _ _ _ hP hD hS (lv_sub hl [0, 1] rfl)
        · have hf := ite_t c_9 hf
          refine lv_aload_n hx hb dX4_keep_12 rfl (lv_at hl 0 rfl) ?_
          refine lv_aload_n hx hb dX4_keep_13 rfl (lv_at hl 0 rfl) ?_
          refine va_get (D := D) (ci := 4) (v := .ref (md 8)) (C := RX4) (T := TX4) (N := 18) hx hb hts hinX4 hown hK.1 hP 0 rfl rfl 11 (by decide) (hts (.fieldLink RX4 36 "GridpuzzleModel" "digits" "[I") (by decide +kernel)) (fun _ h9 => h9) rfl dX4_keep_14 ?_
          refine lv_iload_n hx hb dX4_keep_17 rfl (lv_at hl 2 rfl) ?_
          obtain ⟨hz18, hf⟩ := gd_some hf
          refine va_iald hx hb hK.1 hP 8 0 rfl rfl hz18 dX4_keep_18 ?_
          refine lv_aload_n hx hb dX4_keep_19 rfl (lv_at hl 0 rfl) ?_
          refine va_get (D := D) (ci := 4) (v := .ref (md 9)) (C := RX4) (T := TX4) (N := 18) hx hb hts hinX4 hown hK.1 hP 0 rfl rfl 12 (by decide) (hts (.fieldLink RX4 39 "GridpuzzleModel" "firstAnswer" "[I") (by decide +kernel)) (fun _ h9 => h9) rfl dX4_keep_20 ?_
          refine lv_iload_n hx hb dX4_keep_23 rfl (lv_at hl 2 rfl) ?_
          obtain ⟨hz24, hf⟩ := gd_some hf
          refine va_iald hx hb hK.1 hP 9 0 rfl rfl hz24 dX4_keep_24 ?_
          obtain ⟨k36, hk36, hf⟩ := jn_some hf
          have w36 : ∀ (t0_36 : Int32), k36 t0_36 = some r → ∀ (H : Heap) (locs : List Loc) (ls : Array Slot), va_P D vwCl (wM cI cZ md mth msz mrn mmy mdf_3 mgu mhs mlv mba mgi mfi mle mst msu mtr mdi mfa mca) H → va_D A (wM cI cZ md mth msz mrn mmy mdf_3 mgu mhs mlv mba mgi mfi mle mst msu mtr mdi mfa mca) → va_S A s.heap H locs → lv_has ls 3 [(0, .ref (md 0)), (1, .int p1), (2, .int v2_3)] → W p l e rm_X4_keep s m args below meth c H locs 0 0 Q (F0 m 36 ls [.int t0_36, .ref (md 0)]) := by
            intro t0_36 hf H locs ls hP hD hS hl
            rw [hk36] at hf
            try dsimp only at hf
            refine va_put (D := D) (ci := 4) (v := .int t0_36) (ty := .int) (C := RX4) (T := TX4) (N := 18) hx hb hts hinX4 tyX4 tyX4_ok nmX4 hown hK.1 hP hD hS 0 rfl rfl 13 (by decide) (hts (.fieldLink RX4 100 "GridpuzzleModel" "differing" "I") (by decide +kernel)) (fun _ h9 => h9) rfl (by decide +kernel) rfl rfl (Nat.le_of_ble_eq_true rfl) dX4_keep_36 (fun H locs hP hD hS => ?_)
            have hP : va_P D vwCl (wM cI cZ md mth msz mrn mmy t0_36 mgu mhs mlv mba mgi mfi mle mst msu mtr mdi mfa mca) H := hP
            have hD : va_D A (wM cI cZ md mth msz mrn mmy t0_36 mgu mhs mlv mba mgi mfi mle mst msu mtr mdi mfa mca) := hD
            refine lv_iinc (v := (v2_3 + (-1))) (lv' := [(2, .int (v2_3 + (-1))), (0, .ref (md 0)), (1, .int p1)]) hx hb dX4_keep_39 hl (k := 2) rfl rfl (by decide) rfl (fun ls hl => ?_)
            refine lv_goto (tgt := 3) hx hb dX4_keep_42 (by decide) ?_
            exact ih3 (v2_3 + (-1)) t0_36 hf _ _ _ hP hD hS (lv_sub hl [1, 2, 0] rfl)
          refine lv_icmp_ne (tgt := 35) hx hb dX4_keep_25 (by decide) (fun c_25 => ?_) (fun c_25 => ?_)
          · have hf := ite_f c_25 hf
            refine lv_iload_n hx hb dX4_keep_35 rfl (lv_at hl 2 rfl) ?_
            exact w36 v2_3 hf _ _ _ hP hD hS (lv_sub hl [0, 1, 2] rfl)
          · have hf := ite_t c_25 hf
            refine lv_aload_n hx hb dX4_keep_28 rfl (lv_at hl 0 rfl) ?_
            refine va_get (D := D) (ci := 4) (v := .int mdf_3) (C := RX4) (T := TX4) (N := 18) hx hb hts hinX4 hown hK.1 hP 0 rfl rfl 13 (by decide) (hts (.fieldLink RX4 100 "GridpuzzleModel" "differing" "I") (by decide +kernel)) (fun _ h9 => h9) rfl dX4_keep_29 ?_
            refine lv_goto (tgt := 36) hx hb dX4_keep_32 (by decide) ?_
            exact w36 mdf_3 hf _ _ _ hP hD hS (lv_sub hl [0, 1, 2] rfl)
  exact l3 N 15 mdf hf _ _ _ hP hD hS (lv_sub hl [1, 2, 0] rfl)
def rm_X4_attempt : Room := { frames := 4, cells := 0, slots := 0, locals := 85 }
set_option maxRecDepth 100000 in
set_option maxHeartbeats 8000000 in
theorem K_X4_attempt (l : Launch) (D : va_G) (cI cZ : ClassId) (md : Nat → Nat) (sz : Nat) (N : Nat) (mth msz mrn mmy mdf mgu mhs mlv : Int32) (mba mgi mfi mle mst msu mtr mdi mfa mca : Nat → Int32) (p1 : Int32) (r : (Int32 × Int32 × Int32 × Int32 × (Nat → Int32) × (Nat → Int32) × (Nat → Int32))) (hf : f_X4_attempt N msz mrn mmy mdf mgu mba mgi mfi mle mst msu mtr mdi mfa p1 = some r) : Met l yX4_attempt wsX4_attempt rm_X4_attempt (PC D cI cZ sz [.ref (md 0), .int p1] (wM cI cZ md mth msz mrn mmy mdf mgu mhs mlv mba mgi mfi mle mst msu mtr mdi mfa mca)) (QI D cI cZ sz (wM cI cZ md mth msz mrn mmy mdf mgu mhs mlv mba mgi mfi mle mst msu mtr mdi mfa mca) r.1 (wM cI cZ md mth msz mrn r.2.1 r.2.2.1 r.2.2.2.1 mhs mlv mba mgi mfi mle mst msu r.2.2.2.2.1 r.2.2.2.2.2.1 r.2.2.2.2.2.2 mca)) 0 0 (va_A (wM cI cZ md mth msz mrn mmy mdf mgu mhs mlv mba mgi mfi mle mst msu mtr mdi mfa mca) sz) := by
  refine mk_i (cc := cX4_attempt) (maxL := 7) (lv0 := [(0, .ref (md 0)), (1, .int p1)]) (by decide) rfl (Nat.le_of_ble_eq_true rfl) rfl ?_
  intro p e s m args below meth c ls A Q H hx hb hml hown hts hK hP hD hA hS hl hR
  have hinX4 : ∀ w ∈ wsX40, w ∈ wsX4_attempt := by decide +kernel
  rw [f_X4_attempt] at hf
  refine lv_aload_n hx hb dX4_attempt_0 rfl (lv_at hl 0 rfl) ?_
  obtain ⟨x1, hy1, hf⟩ := Option.bind_eq_some_iff.mp hf
  refine clV_v (As := []) (rest := []) (wM cI cZ md mth msz mrn x1.1 mdf mgu mhs mlv mba mgi mfi mle mst msu x1.2.1 x1.2.2 mfa mca) ⟨hx, hb, hml, hown, hts⟩ (K_X4_layTried l D cI cZ md H.size N mth msz mrn mmy mdf mgu mhs mlv mba mgi mfi mle mst msu mtr mdi mfa mca _ hy1) (cwV 0 hts gX4_attempt_X4_layTried rfl rfl rfl (by decide +kernel) ⟨Nat.le_of_ble_eq_true rfl, Nat.le_of_ble_eq_true rfl⟩) hK hP hD hS hA hl.1 [0, 1, 2, 3, 4, 5, 6, 7, 8, 9, 10] (by decide) rfl rfl rfl 4 0 rfl rfl rfl rfl rfl (Nat.le_of_ble_eq_true rfl) dX4_attempt_1 ⟨Nat.le_of_ble_eq_true rfl, Nat.le_of_ble_eq_true rfl⟩ (fun H locs hP hD hS => ?_)
  refine lv_aload_n hx hb dX4_attempt_4 rfl (lv_at hl 0 rfl) ?_
  refine lv_iconst (v := 0) hx hb dX4_attempt_5 (by decide) ?_
  refine va_put (D := D) (ci := 4) (v := .int 0) (ty := .boolean) (C := RX4) (T := TX4) (N := 18) hx hb hts hinX4 tyX4 tyX4_ok nmX4 hown hK.1 hP hD hS 0 rfl rfl 14 (by decide) (hts (.fieldLink RX4 106 "GridpuzzleModel" "isGivenUp" "Z") (by decide +kernel)) (fun _ h9 => h9) rfl (by decide +kernel) rfl rfl (Nat.le_of_ble_eq_true rfl) dX4_attempt_6 (fun H locs hP hD hS => ?_)
  have hP : va_P D vwCl (wM cI cZ md mth msz mrn x1.1 mdf 0 mhs mlv mba mgi mfi mle mst msu x1.2.1 x1.2.2 mfa mca) H := hP
  have hD : va_D A (wM cI cZ md mth msz mrn x1.1 mdf 0 mhs mlv mba mgi mfi mle mst msu x1.2.1 x1.2.2 mfa mca) := hD
  refine lv_aload_n hx hb dX4_attempt_9 rfl (lv_at hl 0 rfl) ?_
  refine lv_iconst (v := (-1)) hx hb dX4_attempt_10 (by decide) ?_
  refine va_put (D := D) (ci := 4) (v := .int (-1)) (ty := .int) (C := RX4) (T := TX4) (N := 18) hx hb hts hinX4 tyX4 tyX4_ok nmX4 hown hK.1 hP hD hS 0 rfl rfl 13 (by decide) (hts (.fieldLink RX4 100 "GridpuzzleModel" "differing" "I") (by decide +kernel)) (fun _ h9 => h9) rfl (by decide +kernel) rfl rfl (Nat.le_of_ble_eq_true rfl) dX4_attempt_11 (fun H locs hP hD hS => ?_)
  have hP : va_P D vwCl (wM cI cZ md mth msz mrn x1.1 (-1) 0 mhs mlv mba mgi mfi mle mst msu x1.2.1 x1.2.2 mfa mca) H := hP
  have hD : va_D A (wM cI cZ md mth msz mrn x1.1 (-1) 0 mhs mlv mba mgi mfi mle mst msu x1.2.1 x1.2.2 mfa mca) := hD
  refine lv_aload_n hx hb dX4_attempt_14 rfl (lv_at hl 0 rfl) ?_
  refine va_get (D := D) (ci := 4) (v := .int x1.1) (C := RX4) (T := TX4) (N := 18) hx hb hts hinX4 hown hK.1 hP 0 rfl rfl 10 (by decide) (hts (.fieldLink RX4 97 "GridpuzzleModel" "many" "I") (by decide +kernel)) (fun _ h9 => h9) rfl dX4_attempt_15 ?_
  refine lv_if_ne (tgt := 34) hx hb dX4_attempt_18 (by decide) (fun c_18 => ?_) (fun c_18 => ?_)
  · have hf := ite_f c_18 hf
    refine lv_iconst (v := 0) hx hb dX4_attempt_34 (by decide) ?_
    refine lv_istore_n (lv' := [(2, .int 0), (0, .ref (md 0)), (1, .int p1)]) hx hb dX4_attempt_35 rfl hl (by decide) rfl (fun ls hl => ?_)
    refine lv_iconst (v := 0) hx hb dX4_attempt_36 (by decide) ?_
    refine lv_istore_n (lv' := [(3, .int 0), (2, .int 0), (0, .ref (md 0)), (1, .int p1)]) hx hb dX4_attempt_37 rfl hl (by decide) rfl (fun ls hl => ?_)
    refine lv_iconst (v := 0) hx hb dX4_attempt_38 (by decide) ?_
    refine lv_istore (lv' := [(4, .int 0), (3, .int 0), (2, .int 0), (0, .ref (md 0)), (1, .int p1)]) hx hb dX4_attempt_39 hl (by decide) rfl (fun ls hl => ?_)
    refine lv_iconst (v := 0) hx hb dX4_attempt_41 (by decide) ?_
    refine lv_istore (lv' := [(5, .int 0), (4, .int 0), (3, .int 0), (2, .int 0), (0, .ref (md 0)), (1, .int p1)]) hx hb dX4_attempt_42 hl (by decide) rfl (fun ls hl => ?_)
    obtain ⟨k117, hk117, hf⟩ := jn_some hf
    have w117 : ∀ (mdf_117 : Int32) (mdi_117 : Nat → Int32) (mfa_117 : Nat → Int32), k117 mdf_117 mdi_117 mfa_117 = some r → ∀ (H : Heap) (locs : List Loc) (ls : Array Slot), va_P D vwCl (wM cI cZ md mth msz mrn x1.1 mdf_117 0 mhs mlv mba mgi mfi mle mst msu x1.2.1 mdi_117 mfa_117 mca) H → va_D A (wM cI cZ md mth msz mrn x1.1 mdf_117 0 mhs mlv mba mgi mfi mle mst msu x1.2.1 mdi_117 mfa_117 mca) → va_S A s.heap H locs → lv_has ls 7 [(0, .ref (md 0))] → W p l e rm_X4_attempt s m args below meth c H locs 0 0 Q (F0 m 117 ls []) := by
      intro mdf_117 mdi_117 mfa_117 hf H locs ls hP hD hS hl
      rw [hk117] at hf
      try dsimp only at hf
      refine lv_aload_n hx hb dX4_attempt_117 rfl (lv_at hl 0 rfl) ?_
      refine lv_iconst (v := 1) hx hb dX4_attempt_118 (by decide) ?_
      refine va_put (D := D) (ci := 4) (v := .int 1) (ty := .boolean) (C := RX4) (T := TX4) (N := 18) hx hb hts hinX4 tyX4 tyX4_ok nmX4 hown hK.1 hP hD hS 0 rfl rfl 14 (by decide) (hts (.fieldLink RX4 106 "GridpuzzleModel" "isGivenUp" "Z") (by decide +kernel)) (fun _ h9 => h9) rfl (by decide +kernel) rfl rfl (Nat.le_of_ble_eq_true rfl) dX4_attempt_119 (fun H locs hP hD hS => ?_)
      have hP : va_P D vwCl (wM cI cZ md mth msz mrn x1.1 mdf_117 1 mhs mlv mba mgi mfi mle mst msu x1.2.1 mdi_117 mfa_117 mca) H := hP
      have hD : va_D A (wM cI cZ md mth msz mrn x1.1 mdf_117 1 mhs mlv mba mgi mfi mle mst msu x1.2.1 mdi_117 mfa_117 mca) := hD
      refine lv_iconst (v := (-1)) hx hb dX4_attempt_122 (by decide) ?_
      cases hf
      exact hR _ _ _ _ _ _ rfl rfl hP hD hS dX4_attempt_123
    have l44 : ∀ (nn : Nat) (v2_44 : Int32) (v3_44 : Int32) (v4_44 : Int32) (v5_44 : Int32) (mdf_44 : Int32) (mdi_44 : Nat → Int32) (mfa_44 : Nat → Int32), f_X4_attempt_L44 N p1 mrn x1.1 0 mfi mle mst msu x1.2.1 k117 nn v2_44 v3_44 v4_44 v5_44 mdf_44 mdi_44 mfa_44 = some r → ∀ (H : Heap) (locs : List Loc) (ls : Array Slot), va_P D vwCl (wM cI cZ md mth msz mrn x1.1 mdf_44 0 mhs mlv mba mgi mfi mle mst msu x1.2.1 mdi_44 mfa_44 mca) H → va_D A (wM cI cZ md mth msz mrn x1.1 mdf_44 0 mhs mlv mba mgi mfi mle mst msu x1.2.1 mdi_44 mfa_44 mca) → va_S A s.heap H locs → lv_has ls 7 [(0, .ref (md 0)), (1, .int p1), (2, .int v2_44), (3, .int v3_44), (4, .int v4_44), (5, .int v5_44)] → W p l e rm_X4_attempt s m args below meth c H locs 0 0 Q (F0 m 44 ls []) := by
      intro nn
      induction nn with
      | zero => intro _ _ _ _ _ _ _ hf; exact nomatch (show (none : Option _) = some r from hf)
      | succ n44 ih44 =>
        intro v2_44 v3_44 v4_44 v5_44 mdf_44 mdi_44 mfa_44 hf H locs ls hP hD hS hl
        rw [f_X4_attempt_L44.eq_2] at hf
        refine lv_iload hx hb dX4_attempt_44 (lv_at hl 4 rfl) ?_
        refine lv_if_lt (tgt := 185) hx hb dX4_attempt_46 (by decide) (fun c_46 => ?_) (fun c_46 => ?_)
        · have hf := ite_t c_46 hf
          refine lv_iload_n hx hb dX4_attempt_185 rfl (lv_at hl 2 rfl) ?_
          cases hf
          exact hR _ _ _ _ _ _ rfl rfl hP hD hS dX4_attempt_186
        · have hf := ite_f c_46 hf
          refine lv_iload_n hx hb dX4_attempt_49 rfl (lv_at hl 2 rfl) ?_
          refine lv_iload_n hx hb dX4_attempt_50 rfl (lv_at hl 1 rfl) ?_
          refine lv_icmp_ge (tgt := 185) hx hb dX4_attempt_51 (by decide) (fun c_51 => ?_) (fun c_51 => ?_)
          · have hf := ite_t c_51 hf
            refine lv_iload_n hx hb dX4_attempt_185 rfl (lv_at hl 2 rfl) ?_
            cases hf
            exact hR _ _ _ _ _ _ rfl rfl hP hD hS dX4_attempt_186
          · have hf := ite_f c_51 hf
            refine lv_aload_n hx hb dX4_attempt_54 rfl (lv_at hl 0 rfl) ?_
            refine va_get (D := D) (ci := 4) (v := .ref (md 7)) (C := RX4) (T := TX4) (N := 18) hx hb hts hinX4 hown hK.1 hP 0 rfl rfl 9 (by decide) (hts (.fieldLink RX4 33 "GridpuzzleModel" "tried" "[I") (by decide +kernel)) (fun _ h9 => h9) rfl dX4_attempt_55 ?_
            refine lv_iload hx hb dX4_attempt_58 (lv_at hl 4 rfl) ?_
            obtain ⟨hz60, hf⟩ := gd_some hf
            refine va_iald hx hb hK.1 hP 7 0 rfl rfl hz60 dX4_attempt_60 ?_
            refine lv_istore (lv' := [(6, .int (x1.2.1 ((v4_44 : Int32)).toNatClampNeg)), (0, .ref (md 0)), (1, .int p1), (2, .int v2_44), (3, .int v3_44), (4, .int v4_44), (5, .int v5_44)]) hx hb dX4_attempt_61 hl (by decide) rfl (fun ls hl => ?_)
            refine lv_aload_n hx hb dX4_attempt_63 rfl (lv_at hl 1 rfl) ?_
            refine va_get (D := D) (ci := 4) (v := .ref (md 8)) (C := RX4) (T := TX4) (N := 18) hx hb hts hinX4 hown hK.1 hP 0 rfl rfl 11 (by decide) (hts (.fieldLink RX4 36 "GridpuzzleModel" "digits" "[I") (by decide +kernel)) (fun _ h9 => h9) rfl dX4_attempt_64 ?_
            refine lv_iload hx hb dX4_attempt_67 (lv_at hl 0 rfl) ?_
            refine lv_iconst (v := 0) hx hb dX4_attempt_69 (by decide) ?_
            obtain ⟨hz70, hf⟩ := gd_some hf
            refine va_iast hx hb hK.1 hP hD hS 8 0 rfl rfl hz70 dX4_attempt_70 (fun H locs hP hD hS => ?_)
            have hP : va_P D vwCl (wM cI cZ md mth msz mrn x1.1 mdf_44 0 mhs mlv mba mgi mfi mle mst msu x1.2.1 (upd mdi_44 (((x1.2.1 ((v4_44 : Int32)).toNatClampNeg) : Int32)).toNatClampNeg 0) mfa_44 mca) H := hP
            have hD : va_D A (wM cI cZ md mth msz mrn x1.1 mdf_44 0 mhs mlv mba mgi mfi mle mst msu x1.2.1 (upd mdi_44 (((x1.2.1 ((v4_44 : Int32)).toNatClampNeg) : Int32)).toNatClampNeg 0) mfa_44 mca) := hD
            refine lv_iinc (v := (v5_44 + 1)) (lv' := [(5, .int (v5_44 + 1)), (6, .int (x1.2.1 ((v4_44 : Int32)).toNatClampNeg)), (0, .ref (md 0)), (1, .int p1), (2, .int v2_44), (3, .int v3_44), (4, .int v4_44)]) hx hb dX4_attempt_71 hl (k := 6) rfl rfl (by decide) rfl (fun ls hl => ?_)
            refine lv_iload hx hb dX4_attempt_74 (lv_at hl 0 rfl) ?_
            refine lv_bipush (v := 9) hx hb dX4_attempt_76 (by decide) ?_
            obtain ⟨k182, hk182, hf⟩ := jn_some hf
            have w182 : ∀ (v2_182 : Int32) (v3_182 : Int32) (v4_182 : Int32) (v5_182 : Int32) (mdf_182 : Int32) (mdi_182 : Nat → Int32) (mfa_182 : Nat → Int32), k182 v2_182 v3_182 v4_182 v5_182 mdf_182 mdi_182 mfa_182 = some r → ∀ (H : Heap) (locs : List Loc) (ls : Array Slot), va_P D vwCl (wM cI cZ md mth msz mrn x1.1 mdf_182 0 mhs mlv mba mgi mfi mle mst msu x1.2.1 mdi_182 mfa_182 mca) H → va_D A (wM cI cZ md mth msz mrn x1.1 mdf_182 0 mhs mlv mba mgi mfi mle mst msu x1.2.1 mdi_182 mfa_182 mca) → va_S A s.heap H locs → lv_has ls 7 [(0, .ref (md 0)), (1, .int p1), (2, .int v2_182), (3, .int v3_182), (4, .int v4_182), (5, .int v5_182)] → W p l e rm_X4_attempt s m args below meth c H locs 0 0 Q (F0 m 182 ls []) := by
              intro v2_182 v3_182 v4_182 v5_182 mdf_182 mdi_182 mfa_182 hf H locs ls hP hD hS hl
              rw [hk182] at hf
              try dsimp only at hf
              refine lv_goto (tgt := 44) hx hb dX4_attempt_182 (by decide) ?_
              exact ih44 v2_182 v3_182 v4_182 v5_182 mdf_182 mdi_182 mfa_182 hf _ _ _ hP hD hS (lv_sub hl [0, 1, 2, 3, 4, 5] rfl)
            refine lv_icmp_le (tgt := 110) hx hb dX4_attempt_78 (by decide) (fun c_78 => ?_) (fun c_78 => ?_)
            · have hf := ite_t c_78 hf
              refine lv_iload_n hx hb dX4_attempt_110 rfl (lv_at hl 5 rfl) ?_
              refine lv_sipush (v := 20000) hx hb dX4_attempt_111 (by decide) ?_
              refine lv_icmp_ne (tgt := 124) hx hb dX4_attempt_114 (by decide) (fun c_114 => ?_) (fun c_114 => ?_)
              · have hf := ite_f c_114 hf
                refine lv_iinc (v := (v3_44 + 1)) (lv' := [(3, .int (v3_44 + 1)), (5, .int (v5_44 + 1)), (6, .int (x1.2.1 ((v4_44 : Int32)).toNatClampNeg)), (0, .ref (md 0)), (1, .int p1), (2, .int v2_44), (4, .int v4_44)]) hx hb dX4_attempt_124 hl (k := 5) rfl rfl (by decide) rfl (fun ls hl => ?_)
                refine lv_aload_n hx hb dX4_attempt_127 rfl (lv_at hl 3 rfl) ?_
                refine lv_iload hx hb dX4_attempt_128 (lv_at hl 2 rfl) ?_
                refine lv_iload hx hb dX4_attempt_130 (lv_at hl 1 rfl) ?_
                obtain ⟨x132, hy132, hf⟩ := Option.bind_eq_some_iff.mp hf
                refine clV_i (As := [.int (x1.2.1 ((v4_44 : Int32)).toNatClampNeg), .int (v5_44 + 1)]) (rest := []) (wM cI cZ md mth msz mrn x1.1 mdf_44 0 mhs mlv mba mgi mfi mle mst msu x1.2.1 (upd mdi_44 (((x1.2.1 ((v4_44 : Int32)).toNatClampNeg) : Int32)).toNatClampNeg 0) mfa_44 mca) ⟨hx, hb, hml, hown, hts⟩ (K_X4_isGood l D cI cZ md H.size N mth msz mrn x1.1 mdf_44 0 mhs mlv mba mgi mfi mle mst msu x1.2.1 (upd mdi_44 (((x1.2.1 ((v4_44 : Int32)).toNatClampNeg) : Int32)).toNatClampNeg 0) mfa_44 mca (x1.2.1 ((v4_44 : Int32)).toNatClampNeg) (v5_44 + 1) _ hy132) (cwV 2 hts gX4_attempt_X4_isGood rfl rfl rfl (by decide +kernel) ⟨Nat.le_of_ble_eq_true rfl, Nat.le_of_ble_eq_true rfl⟩) hK hP hD hS hA hl.1 [0, 1, 2, 3, 4, 5, 6, 7, 8, 9, 10] (by decide) rfl rfl rfl 4 0 rfl rfl rfl rfl rfl (Nat.le_of_ble_eq_true rfl) dX4_attempt_132 ⟨Nat.le_of_ble_eq_true rfl, Nat.le_of_ble_eq_true rfl⟩ (fun H locs hP hD hS => ?_)
                refine lv_if_eq (tgt := 182) hx hb dX4_attempt_135 (by decide) (fun c_135 => ?_) (fun c_135 => ?_)
                · have hf := ite_t c_135 hf
                  exact w182 v2_44 (v3_44 + 1) v4_44 (v5_44 + 1) mdf_44 (upd mdi_44 (((x1.2.1 ((v4_44 : Int32)).toNatClampNeg) : Int32)).toNatClampNeg 0) mfa_44 hf _ _ _ hP hD hS (lv_sub hl [3, 4, 5, 0, 6, 1] rfl)
                · have hf := ite_f c_135 hf
                  refine lv_aload_n hx hb dX4_attempt_138 rfl (lv_at hl 3 rfl) ?_
                  refine va_get (D := D) (ci := 4) (v := .ref (md 8)) (C := RX4) (T := TX4) (N := 18) hx hb hts hinX4 hown hK.1 hP 0 rfl rfl 11 (by decide) (hts (.fieldLink RX4 36 "GridpuzzleModel" "digits" "[I") (by decide +kernel)) (fun _ h9 => h9) rfl dX4_attempt_139 ?_
                  refine lv_iload hx hb dX4_attempt_142 (lv_at hl 2 rfl) ?_
                  refine lv_iload hx hb dX4_attempt_144 (lv_at hl 1 rfl) ?_
                  obtain ⟨hz146, hf⟩ := gd_some hf
                  refine va_iast hx hb hK.1 hP hD hS 8 0 rfl rfl hz146 dX4_attempt_146 (fun H locs hP hD hS => ?_)
                  have hP : va_P D vwCl (wM cI cZ md mth msz mrn x1.1 mdf_44 0 mhs mlv mba mgi mfi mle mst msu x1.2.1 (upd (upd mdi_44 (((x1.2.1 ((v4_44 : Int32)).toNatClampNeg) : Int32)).toNatClampNeg 0) (((x1.2.1 ((v4_44 : Int32)).toNatClampNeg) : Int32)).toNatClampNeg (v5_44 + 1)) mfa_44 mca) H := hP
                  have hD : va_D A (wM cI cZ md mth msz mrn x1.1 mdf_44 0 mhs mlv mba mgi mfi mle mst msu x1.2.1 (upd (upd mdi_44 (((x1.2.1 ((v4_44 : Int32)).toNatClampNeg) : Int32)).toNatClampNeg 0) (((x1.2.1 ((v4_44 : Int32)).toNatClampNeg) : Int32)).toNatClampNeg (v5_44 + 1)) mfa_44 mca) := hD
                  refine lv_iload hx hb dX4_attempt_147 (lv_at hl 6 rfl) ?_
                  refine lv_aload_n hx hb dX4_attempt_149 rfl (lv_at hl 3 rfl) ?_
                  refine va_get (D := D) (ci := 4) (v := .int x1.1) (C := RX4) (T := TX4) (N := 18) hx hb hts hinX4 hown hK.1 hP 0 rfl rfl 10 (by decide) (hts (.fieldLink RX4 97 "GridpuzzleModel" "many" "I") (by decide +kernel)) (fun _ h9 => h9) rfl dX4_attempt_150 ?_
                  refine lv_iconst (v := 1) hx hb dX4_attempt_153 (by decide) ?_
                  refine lv_isub hx hb dX4_attempt_154 ?_
                  refine lv_icmp_ge (tgt := 167) hx hb dX4_attempt_155 (by decide) (fun c_155 => ?_) (fun c_155 => ?_)
                  · have hf := ite_t c_155 hf
                    refine lv_aload_n hx hb dX4_attempt_167 rfl (lv_at hl 3 rfl) ?_
                    obtain ⟨x168, hy168, hf⟩ := Option.bind_eq_some_iff.mp hf
                    refine clV_i (As := []) (rest := []) (wM cI cZ md mth msz mrn x1.1 mdf_44 0 mhs mlv mba mgi mfi mle mst msu x1.2.1 (upd (upd mdi_44 (((x1.2.1 ((v4_44 : Int32)).toNatClampNeg) : Int32)).toNatClampNeg 0) (((x1.2.1 ((v4_44 : Int32)).toNatClampNeg) : Int32)).toNatClampNeg (v5_44 + 1)) mfa_44 mca) ⟨hx, hb, hml, hown, hts⟩ (K_X4_isAnswer l D cI cZ md H.size N mth msz mrn x1.1 mdf_44 0 mhs mlv mba mgi mfi mle mst msu x1.2.1 (upd (upd mdi_44 (((x1.2.1 ((v4_44 : Int32)).toNatClampNeg) : Int32)).toNatClampNeg 0) (((x1.2.1 ((v4_44 : Int32)).toNatClampNeg) : Int32)).toNatClampNeg (v5_44 + 1)) mfa_44 mca _ hy168) (cwV 0 hts gX4_attempt_X4_isAnswer rfl rfl rfl (by decide +kernel) ⟨Nat.le_of_ble_eq_true rfl, Nat.le_of_ble_eq_true rfl⟩) hK hP hD hS hA hl.1 [0, 1, 2, 3, 4, 5, 6, 7, 8, 9, 10] (by decide) rfl rfl rfl 4 0 rfl rfl rfl rfl rfl (Nat.le_of_ble_eq_true rfl) dX4_attempt_168 ⟨Nat.le_of_ble_eq_true rfl, Nat.le_of_ble_eq_true rfl⟩ (fun H locs hP hD hS => ?_)
                    refine lv_if_eq (tgt := 182) hx hb dX4_attempt_171 (by decide) (fun c_171 => ?_) (fun c_171 => ?_)
                    · have hf := ite_t c_171 hf
                      exact w182 v2_44 (v3_44 + 1) v4_44 (v5_44 + 1) mdf_44 (upd (upd mdi_44 (((x1.2.1 ((v4_44 : Int32)).toNatClampNeg) : Int32)).toNatClampNeg 0) (((x1.2.1 ((v4_44 : Int32)).toNatClampNeg) : Int32)).toNatClampNeg (v5_44 + 1)) mfa_44 hf _ _ _ hP hD hS (lv_sub hl [3, 4, 5, 0, 6, 1] rfl)
                    · have hf := ite_f c_171 hf
                      refine lv_iinc (v := (v2_44 + 1)) (lv' := [(2, .int (v2_44 + 1)), (3, .int (v3_44 + 1)), (5, .int (v5_44 + 1)), (6, .int (x1.2.1 ((v4_44 : Int32)).toNatClampNeg)), (0, .ref (md 0)), (1, .int p1), (4, .int v4_44)]) hx hb dX4_attempt_174 hl (k := 5) rfl rfl (by decide) rfl (fun ls hl => ?_)
                      refine lv_aload_n hx hb dX4_attempt_177 rfl (lv_at hl 4 rfl) ?_
                      refine lv_iload_n hx hb dX4_attempt_178 rfl (lv_at hl 0 rfl) ?_
                      obtain ⟨x179, hy179, hf⟩ := Option.bind_eq_some_iff.mp hf
                      refine clV_v (As := [.int (v2_44 + 1)]) (rest := []) (wM cI cZ md mth msz mrn x1.1 x179.1 0 mhs mlv mba mgi mfi mle mst msu x1.2.1 (upd (upd mdi_44 (((x1.2.1 ((v4_44 : Int32)).toNatClampNeg) : Int32)).toNatClampNeg 0) (((x1.2.1 ((v4_44 : Int32)).toNatClampNeg) : Int32)).toNatClampNeg (v5_44 + 1)) x179.2 mca) ⟨hx, hb, hml, hown, hts⟩ (K_X4_keep l D cI cZ md H.size N mth msz mrn x1.1 mdf_44 0 mhs mlv mba mgi mfi mle mst msu x1.2.1 (upd (upd mdi_44 (((x1.2.1 ((v4_44 : Int32)).toNatClampNeg) : Int32)).toNatClampNeg 0) (((x1.2.1 ((v4_44 : Int32)).toNatClampNeg) : Int32)).toNatClampNeg (v5_44 + 1)) mfa_44 mca (v2_44 + 1) _ hy179) (cwV 1 hts gX4_attempt_X4_keep rfl rfl rfl (by decide +kernel) ⟨Nat.le_of_ble_eq_true rfl, Nat.le_of_ble_eq_true rfl⟩) hK hP hD hS hA hl.1 [0, 1, 2, 3, 4, 5, 6, 7, 8, 9, 10] (by decide) rfl rfl rfl 4 0 rfl rfl rfl rfl rfl (Nat.le_of_ble_eq_true rfl) dX4_attempt_179 ⟨Nat.le_of_ble_eq_true rfl, Nat.le_of_ble_eq_true rfl⟩ (fun H locs hP hD hS => ?_)
                      exact w182 (v2_44 + 1) (v3_44 + 1) v4_44 (v5_44 + 1) x179.1 (upd (upd mdi_44 (((x1.2.1 ((v4_44 : Int32)).toNatClampNeg) : Int32)).toNatClampNeg 0) (((x1.2.1 ((v4_44 : Int32)).toNatClampNeg) : Int32)).toNatClampNeg (v5_44 + 1)) x179.2 hf _ _ _ hP hD hS (lv_sub hl [4, 5, 0, 1, 6, 2] rfl)
                  · have hf := ite_f c_155 hf
                    refine lv_iinc (v := (v4_44 + 1)) (lv' := [(4, .int (v4_44 + 1)), (3, .int (v3_44 + 1)), (5, .int (v5_44 + 1)), (6, .int (x1.2.1 ((v4_44 : Int32)).toNatClampNeg)), (0, .ref (md 0)), (1, .int p1), (2, .int v2_44)]) hx hb dX4_attempt_158 hl (k := 6) rfl rfl (by decide) rfl (fun ls hl => ?_)
                    refine lv_iconst (v := 0) hx hb dX4_attempt_161 (by decide) ?_
                    refine lv_istore (lv' := [(5, .int 0), (4, .int (v4_44 + 1)), (3, .int (v3_44 + 1)), (6, .int (x1.2.1 ((v4_44 : Int32)).toNatClampNeg)), (0, .ref (md 0)), (1, .int p1), (2, .int v2_44)]) hx hb dX4_attempt_162 hl (by decide) rfl (fun ls hl => ?_)
                    refine lv_goto (tgt := 182) hx hb dX4_attempt_164 (by decide) ?_
                    exact w182 v2_44 (v3_44 + 1) (v4_44 + 1) 0 mdf_44 (upd (upd mdi_44 (((x1.2.1 ((v4_44 : Int32)).toNatClampNeg) : Int32)).toNatClampNeg 0) (((x1.2.1 ((v4_44 : Int32)).toNatClampNeg) : Int32)).toNatClampNeg (v5_44 + 1)) mfa_44 hf _ _ _ hP hD hS (lv_sub hl [4, 5, 6, 2, 1, 0] rfl)
              · have hf := ite_t c_114 hf
                exact w117 mdf_44 (upd mdi_44 (((x1.2.1 ((v4_44 : Int32)).toNatClampNeg) : Int32)).toNatClampNeg 0) mfa_44 hf _ _ _ hP hD hS (lv_sub hl [2] rfl)
            · have hf := ite_f c_78 hf
              refine lv_iinc (v := (v4_44 + (-1))) (lv' := [(4, .int (v4_44 + (-1))), (5, .int (v5_44 + 1)), (6, .int (x1.2.1 ((v4_44 : Int32)).toNatClampNeg)), (0, .ref (md 0)), (1, .int p1), (2, .int v2_44), (3, .int v3_44)]) hx hb dX4_attempt_81 hl (k := 6) rfl rfl (by decide) rfl (fun ls hl => ?_)
              refine lv_iload hx hb dX4_attempt_84 (lv_at hl 0 rfl) ?_
              obtain ⟨k105, hk105, hf⟩ := jn_some hf
              have w105 : ∀ (t0_105 : Int32), k105 t0_105 = some r → ∀ (H : Heap) (locs : List Loc) (ls : Array Slot), va_P D vwCl (wM cI cZ md mth msz mrn x1.1 mdf_44 0 mhs mlv mba mgi mfi mle mst msu x1.2.1 (upd mdi_44 (((x1.2.1 ((v4_44 : Int32)).toNatClampNeg) : Int32)).toNatClampNeg 0) mfa_44 mca) H → va_D A (wM cI cZ md mth msz mrn x1.1 mdf_44 0 mhs mlv mba mgi mfi mle mst msu x1.2.1 (upd mdi_44 (((x1.2.1 ((v4_44 : Int32)).toNatClampNeg) : Int32)).toNatClampNeg 0) mfa_44 mca) → va_S A s.heap H locs → lv_has ls 7 [(0, .ref (md 0)), (1, .int p1), (2, .int v2_44), (3, .int v3_44), (4, .int (v4_44 + (-1)))] → W p l e rm_X4_attempt s m args below meth c H locs 0 0 Q (F0 m 105 ls [.int t0_105]) := by
                intro t0_105 hf H locs ls hP hD hS hl
                rw [hk105] at hf
                try dsimp only at hf
                refine lv_istore (lv' := [(5, .int t0_105), (0, .ref (md 0)), (1, .int p1), (2, .int v2_44), (3, .int v3_44), (4, .int (v4_44 + (-1)))]) hx hb dX4_attempt_105 hl (by decide) rfl (fun ls hl => ?_)
                refine lv_goto (tgt := 182) hx hb dX4_attempt_107 (by decide) ?_
                exact w182 v2_44 v3_44 (v4_44 + (-1)) t0_105 mdf_44 (upd mdi_44 (((x1.2.1 ((v4_44 : Int32)).toNatClampNeg) : Int32)).toNatClampNeg 0) mfa_44 hf _ _ _ hP hD hS (lv_sub hl [1, 2, 3, 4, 5, 0] rfl)
              refine lv_if_lt (tgt := 104) hx hb dX4_attempt_86 (by decide) (fun c_86 => ?_) (fun c_86 => ?_)
              · have hf := ite_t c_86 hf
                refine lv_iconst (v := 0) hx hb dX4_attempt_104 (by decide) ?_
                exact w105 0 hf _ _ _ hP hD hS (lv_sub hl [3, 4, 5, 6, 0] rfl)
              · have hf := ite_f c_86 hf
                refine lv_aload_n hx hb dX4_attempt_89 rfl (lv_at hl 3 rfl) ?_
                refine va_get (D := D) (ci := 4) (v := .ref (md 8)) (C := RX4) (T := TX4) (N := 18) hx hb hts hinX4 hown hK.1 hP 0 rfl rfl 11 (by decide) (hts (.fieldLink RX4 36 "GridpuzzleModel" "digits" "[I") (by decide +kernel)) (fun _ h9 => h9) rfl dX4_attempt_90 ?_
                refine lv_aload_n hx hb dX4_attempt_93 rfl (lv_at hl 3 rfl) ?_
                refine va_get (D := D) (ci := 4) (v := .ref (md 7)) (C := RX4) (T := TX4) (N := 18) hx hb hts hinX4 hown hK.1 hP 0 rfl rfl 9 (by decide) (hts (.fieldLink RX4 33 "GridpuzzleModel" "tried" "[I") (by decide +kernel)) (fun _ h9 => h9) rfl dX4_attempt_94 ?_
                refine lv_iload hx hb dX4_attempt_97 (lv_at hl 0 rfl) ?_
                obtain ⟨hz99, hf⟩ := gd_some hf
                refine va_iald hx hb hK.1 hP 7 0 rfl rfl hz99 dX4_attempt_99 ?_
                obtain ⟨hz100, hf⟩ := gd_some hf
                refine va_iald hx hb hK.1 hP 8 0 rfl rfl hz100 dX4_attempt_100 ?_
                refine lv_goto (tgt := 105) hx hb dX4_attempt_101 (by decide) ?_
                exact w105 ((upd mdi_44 (((x1.2.1 ((v4_44 : Int32)).toNatClampNeg) : Int32)).toNatClampNeg 0) (((x1.2.1 (((v4_44 + (-1)) : Int32)).toNatClampNeg) : Int32)).toNatClampNeg) hf _ _ _ hP hD hS (lv_sub hl [3, 4, 5, 6, 0] rfl)
    exact l44 N 0 0 0 0 (-1) x1.2.2 mfa hf _ _ _ hP hD hS (lv_sub hl [4, 5, 3, 2, 1, 0] rfl)
  · have hf := ite_t c_18 hf
    refine lv_aload_n hx hb dX4_attempt_21 rfl (lv_at hl 0 rfl) ?_
    obtain ⟨x22, hy22, hf⟩ := Option.bind_eq_some_iff.mp hf
    refine clV_i (As := []) (rest := []) (wM cI cZ md mth msz mrn x1.1 (-1) 0 mhs mlv mba mgi mfi mle mst msu x1.2.1 x1.2.2 mfa mca) ⟨hx, hb, hml, hown, hts⟩ (K_X4_isAnswer l D cI cZ md H.size N mth msz mrn x1.1 (-1) 0 mhs mlv mba mgi mfi mle mst msu x1.2.1 x1.2.2 mfa mca _ hy22) (cwV 0 hts gX4_attempt_X4_isAnswer rfl rfl rfl (by decide +kernel) ⟨Nat.le_of_ble_eq_true rfl, Nat.le_of_ble_eq_true rfl⟩) hK hP hD hS hA hl.1 [0, 1, 2, 3, 4, 5, 6, 7, 8, 9, 10] (by decide) rfl rfl rfl 4 0 rfl rfl rfl rfl rfl (Nat.le_of_ble_eq_true rfl) dX4_attempt_22 ⟨Nat.le_of_ble_eq_true rfl, Nat.le_of_ble_eq_true rfl⟩ (fun H locs hP hD hS => ?_)
    refine lv_if_eq (tgt := 32) hx hb dX4_attempt_25 (by decide) (fun c_25 => ?_) (fun c_25 => ?_)
    · have hf := ite_t c_25 hf
      refine lv_iconst (v := 0) hx hb dX4_attempt_32 (by decide) ?_
      cases hf
      exact hR _ _ _ _ _ _ rfl rfl hP hD hS dX4_attempt_33
    · have hf := ite_f c_25 hf
      refine lv_iconst (v := 1) hx hb dX4_attempt_28 (by decide) ?_
      refine lv_goto (tgt := 33) hx hb dX4_attempt_29 (by decide) ?_
      cases hf
      exact hR _ _ _ _ _ _ rfl rfl hP hD hS dX4_attempt_33
def rm_X4_answers : Room := { frames := 5, cells := 0, slots := 0, locals := 111 }
set_option maxRecDepth 100000 in
set_option maxHeartbeats 8000000 in
theorem K_X4_answers (l : Launch) (D : va_G) (cI cZ : ClassId) (md : Nat → Nat) (sz : Nat) (N : Nat) (mth msz mrn mmy mdf mgu mhs mlv : Int32) (mba mgi mfi mle mst msu mtr mdi mfa mca : Nat → Int32) (p1 : Int32) (r : (Int32 × Int32 × Int32 × Int32 × Int32 × (Nat → Int32) × (Nat → Int32) × (Nat → Int32))) (hf : f_X4_answers N mth msz mrn mmy mdf mgu mba mgi mfi mle mst msu mtr mdi mfa p1 = some r) : Met l yX4_answers wsX4_answers rm_X4_answers (PC D cI cZ sz [.ref (md 0), .int p1] (wM cI cZ md mth msz mrn mmy mdf mgu mhs mlv mba mgi mfi mle mst msu mtr mdi mfa mca)) (QI D cI cZ sz (wM cI cZ md mth msz mrn mmy mdf mgu mhs mlv mba mgi mfi mle mst msu mtr mdi mfa mca) r.1 (wM cI cZ md r.2.1 msz mrn r.2.2.1 r.2.2.2.1 r.2.2.2.2.1 mhs mlv mba mgi mfi mle mst msu r.2.2.2.2.2.1 r.2.2.2.2.2.2.1 r.2.2.2.2.2.2.2 mca)) 0 0 (va_A (wM cI cZ md mth msz mrn mmy mdf mgu mhs mlv mba mgi mfi mle mst msu mtr mdi mfa mca) sz) := by
  refine mk_i (cc := cX4_answers) (maxL := 2) (lv0 := [(0, .ref (md 0)), (1, .int p1)]) (by decide) rfl (Nat.le_of_ble_eq_true rfl) rfl ?_
  intro p e s m args below meth c ls A Q H hx hb hml hown hts hK hP hD hA hS hl hR
  rw [f_X4_answers] at hf
  refine lv_aload_n hx hb dX4_answers_0 rfl (lv_at hl 0 rfl) ?_
  refine lv_iload_n hx hb dX4_answers_1 rfl (lv_at hl 1 rfl) ?_
  refine lv_iconst (v := 1) hx hb dX4_answers_2 (by decide) ?_
  refine lv_iconst (v := 5) hx hb dX4_answers_3 (by decide) ?_
  refine clS_i (As := [.int p1, .int 1, .int 5]) (rest := [.ref (md 0)]) (wM cI cZ md mth msz mrn mmy mdf mgu mhs mlv mba mgi mfi mle mst msu mtr mdi mfa mca) ⟨hx, hb, hml, hown, hts⟩ (K_X4_in l D cI cZ H.size  p1 1 5 _ rfl) (va_cwS 3 hts gX4_answers_X4_in rfl rfl rfl (by decide +kernel) ⟨Nat.le_of_ble_eq_true rfl, Nat.le_of_ble_eq_true rfl⟩) hK hP hD hS hA hl.1 [] (by decide) rfl rfl rfl rfl rfl (Nat.le_of_ble_eq_true rfl) dX4_answers_4 ⟨Nat.le_of_ble_eq_true rfl, Nat.le_of_ble_eq_true rfl⟩ (fun H locs hP hD hS => ?_)
  obtain ⟨k15, hk15, hf⟩ := jn_some hf
  have w15 : ∀ (t0_15 : Int32), k15 t0_15 = some r → ∀ (H : Heap) (locs : List Loc) (ls : Array Slot), va_P D vwCl (wM cI cZ md mth msz mrn mmy mdf mgu mhs mlv mba mgi mfi mle mst msu mtr mdi mfa mca) H → va_D A (wM cI cZ md mth msz mrn mmy mdf mgu mhs mlv mba mgi mfi mle mst msu mtr mdi mfa mca) → va_S A s.heap H locs → lv_has ls 2 [(0, .ref (md 0)), (1, .int p1)] → W p l e rm_X4_answers s m args below meth c H locs 0 0 Q (F0 m 15 ls [.int t0_15, .ref (md 0)]) := by
    intro t0_15 hf H locs ls hP hD hS hl
    rw [hk15] at hf
    try dsimp only at hf
    obtain ⟨x15, hy15, hf⟩ := jn_some hf
    refine clV_i (As := [.int t0_15]) (rest := []) (wM cI cZ md x15.2 msz mrn mmy mdf mgu mhs mlv mba mgi mfi mle mst msu mtr mdi mfa mca) ⟨hx, hb, hml, hown, hts⟩ (K_X4_goesWell l D cI cZ md H.size mth msz mrn mmy mdf mgu mhs mlv mba mgi mfi mle mst msu mtr mdi mfa mca t0_15 _ hy15.symm) (cwV 1 hts gX4_answers_X4_goesWell rfl rfl rfl (by decide +kernel) ⟨Nat.le_of_ble_eq_true rfl, Nat.le_of_ble_eq_true rfl⟩) hK hP hD hS hA hl.1 [0, 1, 2, 3, 4, 5, 6, 7, 8, 9, 10] (by decide) rfl rfl rfl 4 0 rfl rfl rfl rfl rfl (Nat.le_of_ble_eq_true rfl) dX4_answers_15 ⟨Nat.le_of_ble_eq_true rfl, Nat.le_of_ble_eq_true rfl⟩ (fun H locs hP hD hS => ?_)
    refine lv_if_eq (tgt := 29) hx hb dX4_answers_18 (by decide) (fun c_18 => ?_) (fun c_18 => ?_)
    · have hf := ite_t c_18 hf
      refine lv_iconst (v := 0) hx hb dX4_answers_29 (by decide) ?_
      cases hf
      exact hR _ _ _ _ _ _ rfl rfl hP hD hS dX4_answers_30
    · have hf := ite_f c_18 hf
      refine lv_aload_n hx hb dX4_answers_21 rfl (lv_at hl 0 rfl) ?_
      refine lv_iload_n hx hb dX4_answers_22 rfl (lv_at hl 1 rfl) ?_
      obtain ⟨x23, hy23, hf⟩ := Option.bind_eq_some_iff.mp hf
      refine clV_i (As := [.int p1]) (rest := []) (wM cI cZ md x15.2 msz mrn x23.2.1 x23.2.2.1 x23.2.2.2.1 mhs mlv mba mgi mfi mle mst msu x23.2.2.2.2.1 x23.2.2.2.2.2.1 x23.2.2.2.2.2.2 mca) ⟨hx, hb, hml, hown, hts⟩ (K_X4_attempt l D cI cZ md H.size N x15.2 msz mrn mmy mdf mgu mhs mlv mba mgi mfi mle mst msu mtr mdi mfa mca p1 _ hy23) (cwV 1 hts gX4_answers_X4_attempt rfl rfl rfl (by decide +kernel) ⟨Nat.le_of_ble_eq_true rfl, Nat.le_of_ble_eq_true rfl⟩) hK hP hD hS hA hl.1 [0, 1, 2, 3, 4, 5, 6, 7, 8, 9, 10] (by decide) rfl rfl rfl 4 0 rfl rfl rfl rfl rfl (Nat.le_of_ble_eq_true rfl) dX4_answers_23 ⟨Nat.le_of_ble_eq_true rfl, Nat.le_of_ble_eq_true rfl⟩ (fun H locs hP hD hS => ?_)
      refine lv_goto (tgt := 30) hx hb dX4_answers_26 (by decide) ?_
      cases hf
      exact hR _ _ _ _ _ _ rfl rfl hP hD hS dX4_answers_30
  refine lv_if_eq (tgt := 14) hx hb dX4_answers_7 (by decide) (fun c_7 => ?_) (fun c_7 => ?_)
  · have hf := ite_t c_7 hf
    refine lv_iconst (v := 1) hx hb dX4_answers_14 (by decide) ?_
    exact w15 1 hf _ _ _ hP hD hS (lv_sub hl [0, 1] rfl)
  · have hf := ite_f c_7 hf
    refine lv_iconst (v := 0) hx hb dX4_answers_10 (by decide) ?_
    refine lv_goto (tgt := 15) hx hb dX4_answers_11 (by decide) ?_
    exact w15 0 hf _ _ _ hP hD hS (lv_sub hl [0, 1] rfl)
def rm_X4_answersByAll : Room := { frames := 4, cells := 0, slots := 0, locals := 85 }
set_option maxRecDepth 100000 in
set_option maxHeartbeats 8000000 in
theorem K_X4_answersByAll (l : Launch) (D : va_G) (cI cZ : ClassId) (md : Nat → Nat) (sz : Nat) (N : Nat) (mth msz mrn mmy mdf mgu mhs mlv : Int32) (mba mgi mfi mle mst msu mtr mdi mfa mca : Nat → Int32) (r : (Int32 × Int32 × Int32 × (Nat → Int32) × (Nat → Int32))) (hf : f_X4_answersByAll N mth msz mrn mmy mba mgi mfi mle mst msu mtr mdi = some r) : Met l yX4_answersByAll wsX4_answersByAll rm_X4_answersByAll (PC D cI cZ sz [.ref (md 0)] (wM cI cZ md mth msz mrn mmy mdf mgu mhs mlv mba mgi mfi mle mst msu mtr mdi mfa mca)) (QI D cI cZ sz (wM cI cZ md mth msz mrn mmy mdf mgu mhs mlv mba mgi mfi mle mst msu mtr mdi mfa mca) r.1 (wM cI cZ md r.2.1 msz mrn r.2.2.1 mdf mgu mhs mlv mba mgi mfi mle mst msu r.2.2.2.1 r.2.2.2.2 mfa mca)) 0 0 (va_A (wM cI cZ md mth msz mrn mmy mdf mgu mhs mlv mba mgi mfi mle mst msu mtr mdi mfa mca) sz) := by
  refine mk_i (cc := cX4_answersByAll) (maxL := 6) (lv0 := [(0, .ref (md 0))]) (by decide) rfl (Nat.le_of_ble_eq_true rfl) rfl ?_
  intro p e s m args below meth c ls A Q H hx hb hml hown hts hK hP hD hA hS hl hR
  have hinX4 : ∀ w ∈ wsX40, w ∈ wsX4_answersByAll := by decide +kernel
  rw [f_X4_answersByAll] at hf
  refine lv_aload_n hx hb dX4_answersByAll_0 rfl (lv_at hl 0 rfl) ?_
  obtain ⟨x1, hy1, hf⟩ := Option.bind_eq_some_iff.mp hf
  refine clV_v (As := []) (rest := []) (wM cI cZ md mth msz mrn x1.1 mdf mgu mhs mlv mba mgi mfi mle mst msu x1.2.1 x1.2.2 mfa mca) ⟨hx, hb, hml, hown, hts⟩ (K_X4_layTried l D cI cZ md H.size N mth msz mrn mmy mdf mgu mhs mlv mba mgi mfi mle mst msu mtr mdi mfa mca _ hy1) (cwV 0 hts gX4_answersByAll_X4_layTried rfl rfl rfl (by decide +kernel) ⟨Nat.le_of_ble_eq_true rfl, Nat.le_of_ble_eq_true rfl⟩) hK hP hD hS hA hl.1 [0, 1, 2, 3, 4, 5, 6, 7, 8, 9, 10] (by decide) rfl rfl rfl 4 0 rfl rfl rfl rfl rfl (Nat.le_of_ble_eq_true rfl) dX4_answersByAll_1 ⟨Nat.le_of_ble_eq_true rfl, Nat.le_of_ble_eq_true rfl⟩ (fun H locs hP hD hS => ?_)
  refine lv_aload_n hx hb dX4_answersByAll_4 rfl (lv_at hl 0 rfl) ?_
  refine lv_aload_n hx hb dX4_answersByAll_5 rfl (lv_at hl 0 rfl) ?_
  refine va_get (D := D) (ci := 4) (v := .int x1.1) (C := RX4) (T := TX4) (N := 18) hx hb hts hinX4 hown hK.1 hP 0 rfl rfl 10 (by decide) (hts (.fieldLink RX4 97 "GridpuzzleModel" "many" "I") (by decide +kernel)) (fun _ h9 => h9) rfl dX4_answersByAll_6 ?_
  refine lv_iconst (v := 4) hx hb dX4_answersByAll_9 (by decide) ?_
  obtain ⟨k18, hk18, hf⟩ := jn_some hf
  have w18 : ∀ (t0_18 : Int32), k18 t0_18 = some r → ∀ (H : Heap) (locs : List Loc) (ls : Array Slot), va_P D vwCl (wM cI cZ md mth msz mrn x1.1 mdf mgu mhs mlv mba mgi mfi mle mst msu x1.2.1 x1.2.2 mfa mca) H → va_D A (wM cI cZ md mth msz mrn x1.1 mdf mgu mhs mlv mba mgi mfi mle mst msu x1.2.1 x1.2.2 mfa mca) → va_S A s.heap H locs → lv_has ls 6 [(0, .ref (md 0))] → W p l e rm_X4_answersByAll s m args below meth c H locs 0 0 Q (F0 m 18 ls [.int t0_18, .ref (md 0)]) := by
    intro t0_18 hf H locs ls hP hD hS hl
    rw [hk18] at hf
    try dsimp only at hf
    obtain ⟨x18, hy18, hf⟩ := jn_some hf
    refine clV_i (As := [.int t0_18]) (rest := []) (wM cI cZ md x18.2 msz mrn x1.1 mdf mgu mhs mlv mba mgi mfi mle mst msu x1.2.1 x1.2.2 mfa mca) ⟨hx, hb, hml, hown, hts⟩ (K_X4_goesWell l D cI cZ md H.size mth msz mrn x1.1 mdf mgu mhs mlv mba mgi mfi mle mst msu x1.2.1 x1.2.2 mfa mca t0_18 _ hy18.symm) (cwV 1 hts gX4_answersByAll_X4_goesWell rfl rfl rfl (by decide +kernel) ⟨Nat.le_of_ble_eq_true rfl, Nat.le_of_ble_eq_true rfl⟩) hK hP hD hS hA hl.1 [0, 1, 2, 3, 4, 5, 6, 7, 8, 9, 10] (by decide) rfl rfl rfl 4 0 rfl rfl rfl rfl rfl (Nat.le_of_ble_eq_true rfl) dX4_answersByAll_18 ⟨Nat.le_of_ble_eq_true rfl, Nat.le_of_ble_eq_true rfl⟩ (fun H locs hP hD hS => ?_)
    refine lv_if_ne (tgt := 26) hx hb dX4_answersByAll_21 (by decide) (fun c_21 => ?_) (fun c_21 => ?_)
    · have hf := ite_f c_21 hf
      refine lv_iconst (v := 1) hx hb dX4_answersByAll_26 (by decide) ?_
      refine lv_istore_n (lv' := [(1, .int 1), (0, .ref (md 0))]) hx hb dX4_answersByAll_27 rfl hl (by decide) rfl (fun ls hl => ?_)
      refine lv_iconst (v := 0) hx hb dX4_answersByAll_28 (by decide) ?_
      refine lv_istore_n (lv' := [(2, .int 0), (1, .int 1), (0, .ref (md 0))]) hx hb dX4_answersByAll_29 rfl hl (by decide) rfl (fun ls hl => ?_)
      obtain ⟨k49, hk49, hf⟩ := jn_some hf
      have w49 : ∀ (v1_49 : Int32), k49 v1_49 = some r → ∀ (H : Heap) (locs : List Loc) (ls : Array Slot), va_P D vwCl (wM cI cZ md x18.2 msz mrn x1.1 mdf mgu mhs mlv mba mgi mfi mle mst msu x1.2.1 x1.2.2 mfa mca) H → va_D A (wM cI cZ md x18.2 msz mrn x1.1 mdf mgu mhs mlv mba mgi mfi mle mst msu x1.2.1 x1.2.2 mfa mca) → va_S A s.heap H locs → lv_has ls 6 [(0, .ref (md 0)), (1, .int v1_49)] → W p l e rm_X4_answersByAll s m args below meth c H locs 0 0 Q (F0 m 49 ls []) := by
        intro v1_49 hf H locs ls hP hD hS hl
        rw [hk49] at hf
        try dsimp only at hf
        refine lv_iconst (v := 0) hx hb dX4_answersByAll_49 (by decide) ?_
        refine lv_istore_n (lv' := [(2, .int 0), (0, .ref (md 0)), (1, .int v1_49)]) hx hb dX4_answersByAll_50 rfl hl (by decide) rfl (fun ls hl => ?_)
        refine lv_iconst (v := 0) hx hb dX4_answersByAll_51 (by decide) ?_
        refine lv_istore_n (lv' := [(3, .int 0), (2, .int 0), (0, .ref (md 0)), (1, .int v1_49)]) hx hb dX4_answersByAll_52 rfl hl (by decide) rfl (fun ls hl => ?_)
        have l53 : ∀ (nn : Nat) (v2_53 : Int32) (v3_53 : Int32) (mdi_53 : Nat → Int32), f_X4_answersByAll_L53 N v1_49 x18.2 mrn x1.1 mfi mle mst msu x1.2.1 nn v2_53 v3_53 mdi_53 = some r → ∀ (H : Heap) (locs : List Loc) (ls : Array Slot), va_P D vwCl (wM cI cZ md x18.2 msz mrn x1.1 mdf mgu mhs mlv mba mgi mfi mle mst msu x1.2.1 mdi_53 mfa mca) H → va_D A (wM cI cZ md x18.2 msz mrn x1.1 mdf mgu mhs mlv mba mgi mfi mle mst msu x1.2.1 mdi_53 mfa mca) → va_S A s.heap H locs → lv_has ls 6 [(0, .ref (md 0)), (1, .int v1_49), (2, .int v2_53), (3, .int v3_53)] → W p l e rm_X4_answersByAll s m args below meth c H locs 0 0 Q (F0 m 53 ls []) := by
          intro nn
          induction nn with
          | zero => intro _ _ _ hf; exact nomatch (show (none : Option _) = some r from hf)
          | succ n53 ih53 =>
            intro v2_53 v3_53 mdi_53 hf H locs ls hP hD hS hl
            rw [f_X4_answersByAll_L53.eq_2] at hf
            refine lv_iload_n hx hb dX4_answersByAll_53 rfl (lv_at hl 3 rfl) ?_
            refine lv_iload_n hx hb dX4_answersByAll_54 rfl (lv_at hl 1 rfl) ?_
            refine lv_icmp_ge (tgt := 126) hx hb dX4_answersByAll_55 (by decide) (fun c_55 => ?_) (fun c_55 => ?_)
            · have hf := ite_t c_55 hf
              refine lv_iload_n hx hb dX4_answersByAll_126 rfl (lv_at hl 2 rfl) ?_
              cases hf
              exact hR _ _ _ _ _ _ rfl rfl hP hD hS dX4_answersByAll_127
            · have hf := ite_f c_55 hf
              refine lv_iload_n hx hb dX4_answersByAll_58 rfl (lv_at hl 3 rfl) ?_
              refine lv_istore (lv' := [(4, .int v3_53), (0, .ref (md 0)), (1, .int v1_49), (2, .int v2_53), (3, .int v3_53)]) hx hb dX4_answersByAll_59 hl (by decide) rfl (fun ls hl => ?_)
              refine lv_iconst (v := 0) hx hb dX4_answersByAll_61 (by decide) ?_
              refine lv_istore (lv' := [(5, .int 0), (4, .int v3_53), (0, .ref (md 0)), (1, .int v1_49), (2, .int v2_53), (3, .int v3_53)]) hx hb dX4_answersByAll_62 hl (by decide) rfl (fun ls hl => ?_)
              obtain ⟨k105, hk105, hf⟩ := jn_some hf
              have w105 : ∀ (mdi_105 : Nat → Int32), k105 mdi_105 = some r → ∀ (H : Heap) (locs : List Loc) (ls : Array Slot), va_P D vwCl (wM cI cZ md x18.2 msz mrn x1.1 mdf mgu mhs mlv mba mgi mfi mle mst msu x1.2.1 mdi_105 mfa mca) H → va_D A (wM cI cZ md x18.2 msz mrn x1.1 mdf mgu mhs mlv mba mgi mfi mle mst msu x1.2.1 mdi_105 mfa mca) → va_S A s.heap H locs → lv_has ls 6 [(0, .ref (md 0)), (1, .int v1_49), (2, .int v2_53), (3, .int v3_53)] → W p l e rm_X4_answersByAll s m args below meth c H locs 0 0 Q (F0 m 105 ls []) := by
                intro mdi_105 hf H locs ls hP hD hS hl
                rw [hk105] at hf
                try dsimp only at hf
                refine lv_iload_n hx hb dX4_answersByAll_105 rfl (lv_at hl 2 rfl) ?_
                refine lv_aload_n hx hb dX4_answersByAll_106 rfl (lv_at hl 0 rfl) ?_
                obtain ⟨x107, hy107, hf⟩ := Option.bind_eq_some_iff.mp hf
                refine clV_i (As := []) (rest := [.int v2_53]) (wM cI cZ md x18.2 msz mrn x1.1 mdf mgu mhs mlv mba mgi mfi mle mst msu x1.2.1 mdi_105 mfa mca) ⟨hx, hb, hml, hown, hts⟩ (K_X4_isAnswer l D cI cZ md H.size N x18.2 msz mrn x1.1 mdf mgu mhs mlv mba mgi mfi mle mst msu x1.2.1 mdi_105 mfa mca _ hy107) (cwV 0 hts gX4_answersByAll_X4_isAnswer rfl rfl rfl (by decide +kernel) ⟨Nat.le_of_ble_eq_true rfl, Nat.le_of_ble_eq_true rfl⟩) hK hP hD hS hA hl.1 [0, 1, 2, 3, 4, 5, 6, 7, 8, 9, 10] (by decide) rfl rfl rfl 4 0 rfl rfl rfl rfl rfl (Nat.le_of_ble_eq_true rfl) dX4_answersByAll_107 ⟨Nat.le_of_ble_eq_true rfl, Nat.le_of_ble_eq_true rfl⟩ (fun H locs hP hD hS => ?_)
                obtain ⟨k118, hk118, hf⟩ := jn_some hf
                have w118 : ∀ (t0_118 : Int32), k118 t0_118 = some r → ∀ (H : Heap) (locs : List Loc) (ls : Array Slot), va_P D vwCl (wM cI cZ md x18.2 msz mrn x1.1 mdf mgu mhs mlv mba mgi mfi mle mst msu x1.2.1 mdi_105 mfa mca) H → va_D A (wM cI cZ md x18.2 msz mrn x1.1 mdf mgu mhs mlv mba mgi mfi mle mst msu x1.2.1 mdi_105 mfa mca) → va_S A s.heap H locs → lv_has ls 6 [(0, .ref (md 0)), (1, .int v1_49), (3, .int v3_53)] → W p l e rm_X4_answersByAll s m args below meth c H locs 0 0 Q (F0 m 118 ls [.int t0_118, .int v2_53]) := by
                  intro t0_118 hf H locs ls hP hD hS hl
                  rw [hk118] at hf
                  try dsimp only at hf
                  refine lv_iadd hx hb dX4_answersByAll_118 ?_
                  refine lv_istore_n (lv' := [(2, .int (v2_53 + t0_118)), (0, .ref (md 0)), (1, .int v1_49), (3, .int v3_53)]) hx hb dX4_answersByAll_119 rfl hl (by decide) rfl (fun ls hl => ?_)
                  refine lv_iinc (v := (v3_53 + 1)) (lv' := [(3, .int (v3_53 + 1)), (2, .int (v2_53 + t0_118)), (0, .ref (md 0)), (1, .int v1_49)]) hx hb dX4_answersByAll_120 hl (k := 3) rfl rfl (by decide) rfl (fun ls hl => ?_)
                  refine lv_goto (tgt := 53) hx hb dX4_answersByAll_123 (by decide) ?_
                  exact ih53 (v2_53 + t0_118) (v3_53 + 1) mdi_105 hf _ _ _ hP hD hS (lv_sub hl [2, 3, 1, 0] rfl)
                refine lv_if_eq (tgt := 117) hx hb dX4_answersByAll_110 (by decide) (fun c_110 => ?_) (fun c_110 => ?_)
                · have hf := ite_t c_110 hf
                  refine lv_iconst (v := 0) hx hb dX4_answersByAll_117 (by decide) ?_
                  exact w118 0 hf _ _ _ hP hD hS (lv_sub hl [0, 1, 3] rfl)
                · have hf := ite_f c_110 hf
                  refine lv_iconst (v := 1) hx hb dX4_answersByAll_113 (by decide) ?_
                  refine lv_goto (tgt := 118) hx hb dX4_answersByAll_114 (by decide) ?_
                  exact w118 1 hf _ _ _ hP hD hS (lv_sub hl [0, 1, 3] rfl)
              have l64 : ∀ (nn : Nat) (v4_64 : Int32) (v5_64 : Int32) (mdi_64 : Nat → Int32), f_X4_answersByAll_L64 x1.1 x1.2.1 k105 nn v4_64 v5_64 mdi_64 = some r → ∀ (H : Heap) (locs : List Loc) (ls : Array Slot), va_P D vwCl (wM cI cZ md x18.2 msz mrn x1.1 mdf mgu mhs mlv mba mgi mfi mle mst msu x1.2.1 mdi_64 mfa mca) H → va_D A (wM cI cZ md x18.2 msz mrn x1.1 mdf mgu mhs mlv mba mgi mfi mle mst msu x1.2.1 mdi_64 mfa mca) → va_S A s.heap H locs → lv_has ls 6 [(0, .ref (md 0)), (1, .int v1_49), (2, .int v2_53), (3, .int v3_53), (4, .int v4_64), (5, .int v5_64)] → W p l e rm_X4_answersByAll s m args below meth c H locs 0 0 Q (F0 m 64 ls []) := by
                intro nn
                induction nn with
                | zero => intro _ _ _ hf; exact nomatch (show (none : Option _) = some r from hf)
                | succ n64 ih64 =>
                  intro v4_64 v5_64 mdi_64 hf H locs ls hP hD hS hl
                  rw [f_X4_answersByAll_L64.eq_2] at hf
                  refine lv_iload hx hb dX4_answersByAll_64 (lv_at hl 5 rfl) ?_
                  refine lv_aload_n hx hb dX4_answersByAll_66 rfl (lv_at hl 0 rfl) ?_
                  refine va_get (D := D) (ci := 4) (v := .int x1.1) (C := RX4) (T := TX4) (N := 18) hx hb hts hinX4 hown hK.1 hP 0 rfl rfl 10 (by decide) (hts (.fieldLink RX4 97 "GridpuzzleModel" "many" "I") (by decide +kernel)) (fun _ h9 => h9) rfl dX4_answersByAll_67 ?_
                  refine lv_icmp_ge (tgt := 105) hx hb dX4_answersByAll_70 (by decide) (fun c_70 => ?_) (fun c_70 => ?_)
                  · have hf := ite_t c_70 hf
                    exact w105 mdi_64 hf _ _ _ hP hD hS (lv_sub hl [0, 1, 2, 3] rfl)
                  · have hf := ite_f c_70 hf
                    refine lv_aload_n hx hb dX4_answersByAll_73 rfl (lv_at hl 0 rfl) ?_
                    refine va_get (D := D) (ci := 4) (v := .ref (md 8)) (C := RX4) (T := TX4) (N := 18) hx hb hts hinX4 hown hK.1 hP 0 rfl rfl 11 (by decide) (hts (.fieldLink RX4 36 "GridpuzzleModel" "digits" "[I") (by decide +kernel)) (fun _ h9 => h9) rfl dX4_answersByAll_74 ?_
                    refine lv_aload_n hx hb dX4_answersByAll_77 rfl (lv_at hl 0 rfl) ?_
                    refine va_get (D := D) (ci := 4) (v := .ref (md 7)) (C := RX4) (T := TX4) (N := 18) hx hb hts hinX4 hown hK.1 hP 0 rfl rfl 9 (by decide) (hts (.fieldLink RX4 33 "GridpuzzleModel" "tried" "[I") (by decide +kernel)) (fun _ h9 => h9) rfl dX4_answersByAll_78 ?_
                    refine lv_iload hx hb dX4_answersByAll_81 (lv_at hl 5 rfl) ?_
                    obtain ⟨hz83, hf⟩ := gd_some hf
                    refine va_iald hx hb hK.1 hP 7 0 rfl rfl hz83 dX4_answersByAll_83 ?_
                    refine lv_iconst (v := 1) hx hb dX4_answersByAll_84 (by decide) ?_
                    refine lv_iload hx hb dX4_answersByAll_85 (lv_at hl 4 rfl) ?_
                    refine lv_bipush (v := 9) hx hb dX4_answersByAll_87 (by decide) ?_
                    refine lv_irem hx hb dX4_answersByAll_89 (by decide) ?_
                    refine lv_iadd hx hb dX4_answersByAll_90 ?_
                    obtain ⟨hz91, hf⟩ := gd_some hf
                    refine va_iast hx hb hK.1 hP hD hS 8 0 rfl rfl hz91 dX4_answersByAll_91 (fun H locs hP hD hS => ?_)
                    have hP : va_P D vwCl (wM cI cZ md x18.2 msz mrn x1.1 mdf mgu mhs mlv mba mgi mfi mle mst msu x1.2.1 (upd mdi_64 (((x1.2.1 ((v5_64 : Int32)).toNatClampNeg) : Int32)).toNatClampNeg (1 + (v4_64 - v4_64 / 9 * 9))) mfa mca) H := hP
                    have hD : va_D A (wM cI cZ md x18.2 msz mrn x1.1 mdf mgu mhs mlv mba mgi mfi mle mst msu x1.2.1 (upd mdi_64 (((x1.2.1 ((v5_64 : Int32)).toNatClampNeg) : Int32)).toNatClampNeg (1 + (v4_64 - v4_64 / 9 * 9))) mfa mca) := hD
                    refine lv_iload hx hb dX4_answersByAll_92 (lv_at hl 4 rfl) ?_
                    refine lv_bipush (v := 9) hx hb dX4_answersByAll_94 (by decide) ?_
                    refine lv_idiv hx hb dX4_answersByAll_96 (by decide) ?_
                    refine lv_istore (lv' := [(4, .int (v4_64 / 9)), (0, .ref (md 0)), (1, .int v1_49), (2, .int v2_53), (3, .int v3_53), (5, .int v5_64)]) hx hb dX4_answersByAll_97 hl (by decide) rfl (fun ls hl => ?_)
                    refine lv_iinc (v := (v5_64 + 1)) (lv' := [(5, .int (v5_64 + 1)), (4, .int (v4_64 / 9)), (0, .ref (md 0)), (1, .int v1_49), (2, .int v2_53), (3, .int v3_53)]) hx hb dX4_answersByAll_99 hl (k := 5) rfl rfl (by decide) rfl (fun ls hl => ?_)
                    refine lv_goto (tgt := 64) hx hb dX4_answersByAll_102 (by decide) ?_
                    exact ih64 (v4_64 / 9) (v5_64 + 1) (upd mdi_64 (((x1.2.1 ((v5_64 : Int32)).toNatClampNeg) : Int32)).toNatClampNeg (1 + (v4_64 - v4_64 / 9 * 9))) hf _ _ _ hP hD hS (lv_sub hl [2, 3, 4, 5, 1, 0] rfl)
              exact l64 N v3_53 0 mdi_53 hf _ _ _ hP hD hS (lv_sub hl [2, 3, 4, 5, 1, 0] rfl)
        exact l53 N 0 0 x1.2.2 hf _ _ _ hP hD hS (lv_sub hl [2, 3, 1, 0] rfl)
      have l30 : ∀ (nn : Nat) (v1_30 : Int32) (v2_30 : Int32), f_X4_answersByAll_L30 x1.1 k49 nn v1_30 v2_30 = some r → ∀ (H : Heap) (locs : List Loc) (ls : Array Slot), va_P D vwCl (wM cI cZ md x18.2 msz mrn x1.1 mdf mgu mhs mlv mba mgi mfi mle mst msu x1.2.1 x1.2.2 mfa mca) H → va_D A (wM cI cZ md x18.2 msz mrn x1.1 mdf mgu mhs mlv mba mgi mfi mle mst msu x1.2.1 x1.2.2 mfa mca) → va_S A s.heap H locs → lv_has ls 6 [(0, .ref (md 0)), (1, .int v1_30), (2, .int v2_30)] → W p l e rm_X4_answersByAll s m args below meth c H locs 0 0 Q (F0 m 30 ls []) := by
        intro nn
        induction nn with
        | zero => intro _ _ hf; exact nomatch (show (none : Option _) = some r from hf)
        | succ n30 ih30 =>
          intro v1_30 v2_30 hf H locs ls hP hD hS hl
          rw [f_X4_answersByAll_L30.eq_2] at hf
          refine lv_iload_n hx hb dX4_answersByAll_30 rfl (lv_at hl 2 rfl) ?_
          refine lv_aload_n hx hb dX4_answersByAll_31 rfl (lv_at hl 0 rfl) ?_
          refine va_get (D := D) (ci := 4) (v := .int x1.1) (C := RX4) (T := TX4) (N := 18) hx hb hts hinX4 hown hK.1 hP 0 rfl rfl 10 (by decide) (hts (.fieldLink RX4 97 "GridpuzzleModel" "many" "I") (by decide +kernel)) (fun _ h9 => h9) rfl dX4_answersByAll_32 ?_
          refine lv_icmp_ge (tgt := 49) hx hb dX4_answersByAll_35 (by decide) (fun c_35 => ?_) (fun c_35 => ?_)
          · have hf := ite_t c_35 hf
            exact w49 v1_30 hf _ _ _ hP hD hS (lv_sub hl [0, 1] rfl)
          · have hf := ite_f c_35 hf
            refine lv_iload_n hx hb dX4_answersByAll_38 rfl (lv_at hl 1 rfl) ?_
            refine lv_bipush (v := 9) hx hb dX4_answersByAll_39 (by decide) ?_
            refine lv_imul hx hb dX4_answersByAll_41 ?_
            refine lv_istore_n (lv' := [(1, .int (v1_30 * 9)), (0, .ref (md 0)), (2, .int v2_30)]) hx hb dX4_answersByAll_42 rfl hl (by decide) rfl (fun ls hl => ?_)
            refine lv_iinc (v := (v2_30 + 1)) (lv' := [(2, .int (v2_30 + 1)), (1, .int (v1_30 * 9)), (0, .ref (md 0))]) hx hb dX4_answersByAll_43 hl (k := 2) rfl rfl (by decide) rfl (fun ls hl => ?_)
            refine lv_goto (tgt := 30) hx hb dX4_answersByAll_46 (by decide) ?_
            exact ih30 (v1_30 * 9) (v2_30 + 1) hf _ _ _ hP hD hS (lv_sub hl [2, 1, 0] rfl)
      exact l30 N 1 0 hf _ _ _ hP hD hS (lv_sub hl [2, 1, 0] rfl)
    · have hf := ite_t c_21 hf
      refine lv_iconst (v := 0) hx hb dX4_answersByAll_24 (by decide) ?_
      cases hf
      exact hR _ _ _ _ _ _ rfl rfl hP hD hS dX4_answersByAll_25
  refine lv_icmp_le (tgt := 17) hx hb dX4_answersByAll_10 (by decide) (fun c_10 => ?_) (fun c_10 => ?_)
  · have hf := ite_t c_10 hf
    refine lv_iconst (v := 0) hx hb dX4_answersByAll_17 (by decide) ?_
    exact w18 0 hf _ _ _ hP hD hS (lv_sub hl [0] rfl)
  · have hf := ite_f c_10 hf
    refine lv_iconst (v := 1) hx hb dX4_answersByAll_13 (by decide) ?_
    refine lv_goto (tgt := 18) hx hb dX4_answersByAll_14 (by decide) ?_
    exact w18 1 hf _ _ _ hP hD hS (lv_sub hl [0] rfl)
def rm_X4_mend : Room := { frames := 5, cells := 0, slots := 0, locals := 111 }
set_option maxRecDepth 100000 in
set_option maxHeartbeats 8000000 in
theorem K_X4_mend (l : Launch) (D : va_G) (cI cZ : ClassId) (md : Nat → Nat) (sz : Nat) (N : Nat) (mth msz mrn mmy mdf mgu mhs mlv : Int32) (mba mgi mfi mle mst msu mtr mdi mfa mca : Nat → Int32) (r : (Int32 × Int32 × Int32 × Int32 × Int32 × (Nat → Int32) × (Nat → Int32) × (Nat → Int32) × (Nat → Int32))) (hf : f_X4_mend N mth msz mrn mmy mdf mgu mba mgi mfi mle mst msu mtr mdi mfa = some r) : Met l yX4_mend wsX4_mend rm_X4_mend (PC D cI cZ sz [.ref (md 0)] (wM cI cZ md mth msz mrn mmy mdf mgu mhs mlv mba mgi mfi mle mst msu mtr mdi mfa mca)) (QI D cI cZ sz (wM cI cZ md mth msz mrn mmy mdf mgu mhs mlv mba mgi mfi mle mst msu mtr mdi mfa mca) r.1 (wM cI cZ md r.2.1 msz mrn r.2.2.1 r.2.2.2.1 r.2.2.2.2.1 mhs mlv mba r.2.2.2.2.2.1 mfi mle mst msu r.2.2.2.2.2.2.1 r.2.2.2.2.2.2.2.1 r.2.2.2.2.2.2.2.2 mca)) 0 0 (va_A (wM cI cZ md mth msz mrn mmy mdf mgu mhs mlv mba mgi mfi mle mst msu mtr mdi mfa mca) sz) := by
  refine mk_i (cc := cX4_mend) (maxL := 2) (lv0 := [(0, .ref (md 0))]) (by decide) rfl (Nat.le_of_ble_eq_true rfl) rfl ?_
  intro p e s m args below meth c ls A Q H hx hb hml hown hts hK hP hD hA hS hl hR
  have hinX4 : ∀ w ∈ wsX40, w ∈ wsX4_mend := by decide +kernel
  rw [f_X4_mend] at hf
  refine lv_aload_n hx hb dX4_mend_0 rfl (lv_at hl 0 rfl) ?_
  refine lv_iconst (v := 2) hx hb dX4_mend_1 (by decide) ?_
  obtain ⟨x2, hy2, hf⟩ := Option.bind_eq_some_iff.mp hf
  refine clV_i (As := [.int 2]) (rest := []) (wM cI cZ md mth msz mrn x2.2.1 x2.2.2.1 x2.2.2.2.1 mhs mlv mba mgi mfi mle mst msu x2.2.2.2.2.1 x2.2.2.2.2.2.1 x2.2.2.2.2.2.2 mca) ⟨hx, hb, hml, hown, hts⟩ (K_X4_attempt l D cI cZ md H.size N mth msz mrn mmy mdf mgu mhs mlv mba mgi mfi mle mst msu mtr mdi mfa mca 2 _ hy2) (cwV 1 hts gX4_mend_X4_attempt rfl rfl rfl (by decide +kernel) ⟨Nat.le_of_ble_eq_true rfl, Nat.le_of_ble_eq_true rfl⟩) hK hP hD hS hA hl.1 [0, 1, 2, 3, 4, 5, 6, 7, 8, 9, 10] (by decide) rfl rfl rfl 4 0 rfl rfl rfl rfl rfl (Nat.le_of_ble_eq_true rfl) dX4_mend_2 ⟨Nat.le_of_ble_eq_true rfl, Nat.le_of_ble_eq_true rfl⟩ (fun H locs hP hD hS => ?_)
  refine lv_istore_n (lv' := [(1, .int x2.1), (0, .ref (md 0))]) hx hb dX4_mend_5 rfl hl (by decide) rfl (fun ls hl => ?_)
  refine lv_aload_n hx hb dX4_mend_6 rfl (lv_at hl 1 rfl) ?_
  refine lv_aload_n hx hb dX4_mend_7 rfl (lv_at hl 1 rfl) ?_
  refine va_get (D := D) (ci := 4) (v := .int x2.2.2.2.1) (C := RX4) (T := TX4) (N := 18) hx hb hts hinX4 hown hK.1 hP 0 rfl rfl 14 (by decide) (hts (.fieldLink RX4 106 "GridpuzzleModel" "isGivenUp" "Z") (by decide +kernel)) (fun _ h9 => h9) rfl dX4_mend_8 ?_
  obtain ⟨k19, hk19, hf⟩ := jn_some hf
  have w19 : ∀ (t0_19 : Int32), k19 t0_19 = some r → ∀ (H : Heap) (locs : List Loc) (ls : Array Slot), va_P D vwCl (wM cI cZ md mth msz mrn x2.2.1 x2.2.2.1 x2.2.2.2.1 mhs mlv mba mgi mfi mle mst msu x2.2.2.2.2.1 x2.2.2.2.2.2.1 x2.2.2.2.2.2.2 mca) H → va_D A (wM cI cZ md mth msz mrn x2.2.1 x2.2.2.1 x2.2.2.2.1 mhs mlv mba mgi mfi mle mst msu x2.2.2.2.2.1 x2.2.2.2.2.2.1 x2.2.2.2.2.2.2 mca) → va_S A s.heap H locs → lv_has ls 2 [(0, .ref (md 0)), (1, .int x2.1)] → W p l e rm_X4_mend s m args below meth c H locs 0 0 Q (F0 m 19 ls [.int t0_19, .ref (md 0)]) := by
    intro t0_19 hf H locs ls hP hD hS hl
    rw [hk19] at hf
    try dsimp only at hf
    obtain ⟨x19, hy19, hf⟩ := jn_some hf
    refine clV_i (As := [.int t0_19]) (rest := []) (wM cI cZ md x19.2 msz mrn x2.2.1 x2.2.2.1 x2.2.2.2.1 mhs mlv mba mgi mfi mle mst msu x2.2.2.2.2.1 x2.2.2.2.2.2.1 x2.2.2.2.2.2.2 mca) ⟨hx, hb, hml, hown, hts⟩ (K_X4_goesWell l D cI cZ md H.size mth msz mrn x2.2.1 x2.2.2.1 x2.2.2.2.1 mhs mlv mba mgi mfi mle mst msu x2.2.2.2.2.1 x2.2.2.2.2.2.1 x2.2.2.2.2.2.2 mca t0_19 _ hy19.symm) (cwV 1 hts gX4_mend_X4_goesWell rfl rfl rfl (by decide +kernel) ⟨Nat.le_of_ble_eq_true rfl, Nat.le_of_ble_eq_true rfl⟩) hK hP hD hS hA hl.1 [0, 1, 2, 3, 4, 5, 6, 7, 8, 9, 10] (by decide) rfl rfl rfl 4 0 rfl rfl rfl rfl rfl (Nat.le_of_ble_eq_true rfl) dX4_mend_19 ⟨Nat.le_of_ble_eq_true rfl, Nat.le_of_ble_eq_true rfl⟩ (fun H locs hP hD hS => ?_)
    refine lv_if_ne (tgt := 27) hx hb dX4_mend_22 (by decide) (fun c_22 => ?_) (fun c_22 => ?_)
    · have hf := ite_f c_22 hf
      refine lv_iload_n hx hb dX4_mend_27 rfl (lv_at hl 1 rfl) ?_
      refine lv_iconst (v := 2) hx hb dX4_mend_28 (by decide) ?_
      refine lv_icmp_ge (tgt := 34) hx hb dX4_mend_29 (by decide) (fun c_29 => ?_) (fun c_29 => ?_)
      · have hf := ite_t c_29 hf
        refine lv_aload_n hx hb dX4_mend_34 rfl (lv_at hl 0 rfl) ?_
        refine va_get (D := D) (ci := 4) (v := .ref (md 2)) (C := RX4) (T := TX4) (N := 18) hx hb hts hinX4 hown hK.1 hP 0 rfl rfl 3 (by decide) (hts (.fieldLink RX4 17 "GridpuzzleModel" "given" "[I") (by decide +kernel)) (fun _ h9 => h9) rfl dX4_mend_35 ?_
        refine lv_aload_n hx hb dX4_mend_38 rfl (lv_at hl 0 rfl) ?_
        refine va_get (D := D) (ci := 4) (v := .int x2.2.2.1) (C := RX4) (T := TX4) (N := 18) hx hb hts hinX4 hown hK.1 hP 0 rfl rfl 13 (by decide) (hts (.fieldLink RX4 100 "GridpuzzleModel" "differing" "I") (by decide +kernel)) (fun _ h9 => h9) rfl dX4_mend_39 ?_
        refine lv_aload_n hx hb dX4_mend_42 rfl (lv_at hl 0 rfl) ?_
        refine va_get (D := D) (ci := 4) (v := .ref (md 9)) (C := RX4) (T := TX4) (N := 18) hx hb hts hinX4 hown hK.1 hP 0 rfl rfl 12 (by decide) (hts (.fieldLink RX4 39 "GridpuzzleModel" "firstAnswer" "[I") (by decide +kernel)) (fun _ h9 => h9) rfl dX4_mend_43 ?_
        refine lv_aload_n hx hb dX4_mend_46 rfl (lv_at hl 0 rfl) ?_
        refine va_get (D := D) (ci := 4) (v := .int x2.2.2.1) (C := RX4) (T := TX4) (N := 18) hx hb hts hinX4 hown hK.1 hP 0 rfl rfl 13 (by decide) (hts (.fieldLink RX4 100 "GridpuzzleModel" "differing" "I") (by decide +kernel)) (fun _ h9 => h9) rfl dX4_mend_47 ?_
        obtain ⟨hz50, hf⟩ := gd_some hf
        refine va_iald hx hb hK.1 hP 9 0 rfl rfl hz50 dX4_mend_50 ?_
        obtain ⟨hz51, hf⟩ := gd_some hf
        refine va_iast hx hb hK.1 hP hD hS 2 0 rfl rfl hz51 dX4_mend_51 (fun H locs hP hD hS => ?_)
        have hP : va_P D vwCl (wM cI cZ md x19.2 msz mrn x2.2.1 x2.2.2.1 x2.2.2.2.1 mhs mlv mba (upd mgi ((x2.2.2.1 : Int32)).toNatClampNeg (x2.2.2.2.2.2.2 ((x2.2.2.1 : Int32)).toNatClampNeg)) mfi mle mst msu x2.2.2.2.2.1 x2.2.2.2.2.2.1 x2.2.2.2.2.2.2 mca) H := hP
        have hD : va_D A (wM cI cZ md x19.2 msz mrn x2.2.1 x2.2.2.1 x2.2.2.2.1 mhs mlv mba (upd mgi ((x2.2.2.1 : Int32)).toNatClampNeg (x2.2.2.2.2.2.2 ((x2.2.2.1 : Int32)).toNatClampNeg)) mfi mle mst msu x2.2.2.2.2.1 x2.2.2.2.2.2.1 x2.2.2.2.2.2.2 mca) := hD
        refine lv_aload_n hx hb dX4_mend_52 rfl (lv_at hl 0 rfl) ?_
        refine va_get (D := D) (ci := 4) (v := .int x2.2.2.1) (C := RX4) (T := TX4) (N := 18) hx hb hts hinX4 hown hK.1 hP 0 rfl rfl 13 (by decide) (hts (.fieldLink RX4 100 "GridpuzzleModel" "differing" "I") (by decide +kernel)) (fun _ h9 => h9) rfl dX4_mend_53 ?_
        cases hf
        exact hR _ _ _ _ _ _ rfl rfl hP hD hS dX4_mend_56
      · have hf := ite_f c_29 hf
        refine lv_iconst (v := (-1)) hx hb dX4_mend_32 (by decide) ?_
        cases hf
        exact hR _ _ _ _ _ _ rfl rfl hP hD hS dX4_mend_33
    · have hf := ite_t c_22 hf
      refine lv_iconst (v := 0) hx hb dX4_mend_25 (by decide) ?_
      cases hf
      exact hR _ _ _ _ _ _ rfl rfl hP hD hS dX4_mend_26
  refine lv_if_eq (tgt := 18) hx hb dX4_mend_11 (by decide) (fun c_11 => ?_) (fun c_11 => ?_)
  · have hf := ite_t c_11 hf
    refine lv_iconst (v := 0) hx hb dX4_mend_18 (by decide) ?_
    exact w19 0 hf _ _ _ hP hD hS (lv_sub hl [1, 0] rfl)
  · have hf := ite_f c_11 hf
    refine lv_iconst (v := 1) hx hb dX4_mend_14 (by decide) ?_
    refine lv_goto (tgt := 19) hx hb dX4_mend_15 (by decide) ?_
    exact w19 1 hf _ _ _ hP hD hS (lv_sub hl [1, 0] rfl)
def rm_X4_isSingle : Room := { frames := 0, cells := 0, slots := 0, locals := 0 }
set_option maxRecDepth 100000 in
set_option maxHeartbeats 8000000 in
theorem K_X4_isSingle (l : Launch) (D : va_G) (cI cZ : ClassId)  (sz : Nat)  (p0 : Int32) (r : (Int32)) (hf : f_X4_isSingle p0 = r) : Met l yX4_isSingle wsX4_isSingle rm_X4_isSingle (PC D cI cZ sz [.int p0] (wE)) (QI D cI cZ sz (wE) r (wE)) 0 0 (va_A (wE) sz) := by
  refine mk_z (cc := cX4_isSingle) (maxL := 1) (lv0 := [(0, .int p0)]) (by decide) rfl (Nat.le_of_ble_eq_true rfl) rfl ?_
  intro p e s m args below meth c ls A Q H hx hb hml hown hts hK hP hD hA hS hl hR
  rw [f_X4_isSingle] at hf
  refine lv_iload_n hx hb dX4_isSingle_0 rfl (lv_at hl 0 rfl) ?_
  obtain ⟨k16, hk16, hf⟩ := jn_some hf
  have w16 : ∀ (_ : Unit), k16 () = r → ∀ (H : Heap) (locs : List Loc) (ls : Array Slot), va_P D vwCl (wE) H → va_D A (wE) → va_S A s.heap H locs → lv_has ls 1 [] → W p l e rm_X4_isSingle s m args below meth c H locs 0 0 Q (F0 m 16 ls []) := by
    intro _ hf H locs ls hP hD hS hl
    rw [hk16] at hf
    try dsimp only at hf
    refine lv_iconst (v := 0) hx hb dX4_isSingle_16 (by decide) ?_
    cases hf
    exact hR _ _ _ _ _ _ (by decide) rfl rfl hP hD hS dX4_isSingle_17
  refine lv_if_eq (tgt := 16) hx hb dX4_isSingle_1 (by decide) (fun c_1 => ?_) (fun c_1 => ?_)
  · have hf := ite_t c_1 hf
    exact w16 () hf _ _ _ hP hD hS (lv_sub hl [] rfl)
  · have hf := ite_f c_1 hf
    refine lv_iload_n hx hb dX4_isSingle_4 rfl (lv_at hl 0 rfl) ?_
    refine lv_iload_n hx hb dX4_isSingle_5 rfl (lv_at hl 0 rfl) ?_
    refine lv_iconst (v := 1) hx hb dX4_isSingle_6 (by decide) ?_
    refine lv_isub hx hb dX4_isSingle_7 ?_
    refine lv_iand hx hb dX4_isSingle_8 ?_
    refine lv_if_ne (tgt := 16) hx hb dX4_isSingle_9 (by decide) (fun c_9 => ?_) (fun c_9 => ?_)
    · have hf := ite_f c_9 hf
      exact w16 () hf _ _ _ hP hD hS (lv_sub hl [] rfl)
    · have hf := ite_t c_9 hf
      refine lv_iconst (v := 1) hx hb dX4_isSingle_12 (by decide) ?_
      refine lv_goto (tgt := 17) hx hb dX4_isSingle_13 (by decide) ?_
      cases hf
      exact hR _ _ _ _ _ _ (by decide) rfl rfl hP hD hS dX4_isSingle_17
def rm_X4_take : Room := { frames := 0, cells := 0, slots := 0, locals := 0 }
set_option maxRecDepth 100000 in
set_option maxHeartbeats 8000000 in
theorem K_X4_take (l : Launch) (D : va_G) (cI cZ : ClassId) (md : Nat → Nat) (sz : Nat) (mth msz mrn mmy mdf mgu mhs mlv : Int32) (mba mgi mfi mle mst msu mtr mdi mfa mca : Nat → Int32) (p1 : Int32) (p2 : Int32) (r : (Int32 × (Nat → Int32))) (hf : f_X4_take mhs mca p1 p2 = some r) : Met l yX4_take wsX4_take rm_X4_take (PC D cI cZ sz [.ref (md 0), .int p1, .int p2] (wM cI cZ md mth msz mrn mmy mdf mgu mhs mlv mba mgi mfi mle mst msu mtr mdi mfa mca)) (QV D cI cZ sz (wM cI cZ md mth msz mrn mmy mdf mgu mhs mlv mba mgi mfi mle mst msu mtr mdi mfa mca) (wM cI cZ md mth msz mrn mmy mdf mgu r.1 mlv mba mgi mfi mle mst msu mtr mdi mfa r.2)) 0 0 (va_A (wM cI cZ md mth msz mrn mmy mdf mgu mhs mlv mba mgi mfi mle mst msu mtr mdi mfa mca) sz) := by
  refine mk_v (cc := cX4_take) (maxL := 3) (lv0 := [(0, .ref (md 0)), (1, .int p1), (2, .int p2)]) (by decide) rfl (Nat.le_of_ble_eq_true rfl) rfl ?_
  intro p e s m args below meth c ls A Q H hx hb hml hown hts hK hP hD hA hS hl hR
  have hinX4 : ∀ w ∈ wsX40, w ∈ wsX4_take := by decide +kernel
  rw [f_X4_take] at hf
  refine lv_aload_n hx hb dX4_take_0 rfl (lv_at hl 0 rfl) ?_
  refine lv_aload_n hx hb dX4_take_1 rfl (lv_at hl 0 rfl) ?_
  refine va_get (D := D) (ci := 4) (v := .int mhs) (C := RX4) (T := TX4) (N := 18) hx hb hts hinX4 hown hK.1 hP 0 rfl rfl 16 (by decide) (hts (.fieldLink RX4 123 "GridpuzzleModel" "hasTaken" "Z") (by decide +kernel)) (fun _ h9 => h9) rfl dX4_take_2 ?_
  obtain ⟨k24, hk24, hf⟩ := jn_some hf
  have w24 : ∀ (t0_24 : Int32), k24 t0_24 = some r → ∀ (H : Heap) (locs : List Loc) (ls : Array Slot), va_P D vwCl (wM cI cZ md mth msz mrn mmy mdf mgu mhs mlv mba mgi mfi mle mst msu mtr mdi mfa mca) H → va_D A (wM cI cZ md mth msz mrn mmy mdf mgu mhs mlv mba mgi mfi mle mst msu mtr mdi mfa mca) → va_S A s.heap H locs → lv_has ls 3 [(0, .ref (md 0)), (1, .int p1), (2, .int p2)] → W p l e rm_X4_take s m args below meth c H locs 0 0 Q (F0 m 24 ls [.int t0_24, .ref (md 0)]) := by
    intro t0_24 hf H locs ls hP hD hS hl
    rw [hk24] at hf
    try dsimp only at hf
    obtain ⟨hz24, hf⟩ := gd_some hf
    refine va_put (D := D) (ci := 4) (v := .int t0_24) (ty := .boolean) (C := RX4) (T := TX4) (N := 18) hx hb hts hinX4 tyX4 tyX4_ok nmX4 hown hK.1 hP hD hS 0 rfl rfl 16 (by decide) (hts (.fieldLink RX4 123 "GridpuzzleModel" "hasTaken" "Z") (by decide +kernel)) (fun _ h9 => h9) rfl (by decide +kernel) (nar01 hz24) (fit01 hz24) (Nat.le_of_ble_eq_true rfl) dX4_take_24 (fun H locs hP hD hS => ?_)
    have hP : va_P D vwCl (wM cI cZ md mth msz mrn mmy mdf mgu t0_24 mlv mba mgi mfi mle mst msu mtr mdi mfa mca) H := hP
    have hD : va_D A (wM cI cZ md mth msz mrn mmy mdf mgu t0_24 mlv mba mgi mfi mle mst msu mtr mdi mfa mca) := hD
    refine lv_aload_n hx hb dX4_take_27 rfl (lv_at hl 0 rfl) ?_
    refine va_get (D := D) (ci := 4) (v := .ref (md 10)) (C := RX4) (T := TX4) (N := 18) hx hb hts hinX4 hown hK.1 hP 0 rfl rfl 15 (by decide) (hts (.fieldLink RX4 42 "GridpuzzleModel" "candidates" "[I") (by decide +kernel)) (fun _ h9 => h9) rfl dX4_take_28 ?_
    refine lv_iload_n hx hb dX4_take_31 rfl (lv_at hl 1 rfl) ?_
    refine lv_dup2_11 hx hb dX4_take_32 rfl rfl ?_
    obtain ⟨hz33, hf⟩ := gd_some hf
    refine va_iald hx hb hK.1 hP 10 0 rfl rfl hz33 dX4_take_33 ?_
    refine lv_iload_n hx hb dX4_take_34 rfl (lv_at hl 2 rfl) ?_
    refine lv_iconst (v := (-1)) hx hb dX4_take_35 (by decide) ?_
    refine lv_ixor hx hb dX4_take_36 ?_
    refine lv_iand hx hb dX4_take_37 ?_
    obtain ⟨hz38, hf⟩ := gd_some hf
    refine va_iast hx hb hK.1 hP hD hS 10 0 rfl rfl hz38 dX4_take_38 (fun H locs hP hD hS => ?_)
    have hP : va_P D vwCl (wM cI cZ md mth msz mrn mmy mdf mgu t0_24 mlv mba mgi mfi mle mst msu mtr mdi mfa (upd mca ((p1 : Int32)).toNatClampNeg ((mca ((p1 : Int32)).toNatClampNeg) &&& (p2 ^^^ (-1))))) H := hP
    have hD : va_D A (wM cI cZ md mth msz mrn mmy mdf mgu t0_24 mlv mba mgi mfi mle mst msu mtr mdi mfa (upd mca ((p1 : Int32)).toNatClampNeg ((mca ((p1 : Int32)).toNatClampNeg) &&& (p2 ^^^ (-1))))) := hD
    cases hf
    exact hR _ _ _ _ _ rfl hP hD hS dX4_take_39
  obtain ⟨k19, hk19, hf⟩ := jn_some hf
  have w19 : ∀ (_ : Unit), k19 () = some r → ∀ (H : Heap) (locs : List Loc) (ls : Array Slot), va_P D vwCl (wM cI cZ md mth msz mrn mmy mdf mgu mhs mlv mba mgi mfi mle mst msu mtr mdi mfa mca) H → va_D A (wM cI cZ md mth msz mrn mmy mdf mgu mhs mlv mba mgi mfi mle mst msu mtr mdi mfa mca) → va_S A s.heap H locs → lv_has ls 3 [(0, .ref (md 0)), (1, .int p1), (2, .int p2)] → W p l e rm_X4_take s m args below meth c H locs 0 0 Q (F0 m 19 ls [.ref (md 0)]) := by
    intro _ hf H locs ls hP hD hS hl
    rw [hk19] at hf
    try dsimp only at hf
    refine lv_iconst (v := 1) hx hb dX4_take_19 (by decide) ?_
    refine lv_goto (tgt := 24) hx hb dX4_take_20 (by decide) ?_
    exact w24 1 hf _ _ _ hP hD hS (lv_sub hl [0, 1, 2] rfl)
  refine lv_if_ne (tgt := 19) hx hb dX4_take_5 (by decide) (fun c_5 => ?_) (fun c_5 => ?_)
  · have hf := ite_f c_5 hf
    exact w19 () hf _ _ _ hP hD hS (lv_sub hl [0, 1, 2] rfl)
  · have hf := ite_t c_5 hf
    refine lv_aload_n hx hb dX4_take_8 rfl (lv_at hl 0 rfl) ?_
    refine va_get (D := D) (ci := 4) (v := .ref (md 10)) (C := RX4) (T := TX4) (N := 18) hx hb hts hinX4 hown hK.1 hP 0 rfl rfl 15 (by decide) (hts (.fieldLink RX4 42 "GridpuzzleModel" "candidates" "[I") (by decide +kernel)) (fun _ h9 => h9) rfl dX4_take_9 ?_
    refine lv_iload_n hx hb dX4_take_12 rfl (lv_at hl 1 rfl) ?_
    obtain ⟨hz13, hf⟩ := gd_some hf
    refine va_iald hx hb hK.1 hP 10 0 rfl rfl hz13 dX4_take_13 ?_
    refine lv_iload_n hx hb dX4_take_14 rfl (lv_at hl 2 rfl) ?_
    refine lv_iand hx hb dX4_take_15 ?_
    refine lv_if_eq (tgt := 23) hx hb dX4_take_16 (by decide) (fun c_16 => ?_) (fun c_16 => ?_)
    · have hf := ite_t c_16 hf
      refine lv_iconst (v := 0) hx hb dX4_take_23 (by decide) ?_
      exact w24 0 hf _ _ _ hP hD hS (lv_sub hl [0, 1, 2] rfl)
    · have hf := ite_f c_16 hf
      exact w19 () hf _ _ _ hP hD hS (lv_sub hl [0, 1, 2] rfl)
def rm_X4_goThroughSingles : Room := { frames := 1, cells := 0, slots := 0, locals := 22 }
set_option maxRecDepth 100000 in
set_option maxHeartbeats 8000000 in
theorem K_X4_goThroughSingles (l : Launch) (D : va_G) (cI cZ : ClassId) (md : Nat → Nat) (sz : Nat) (N : Nat) (mth msz mrn mmy mdf mgu mhs mlv : Int32) (mba mgi mfi mle mst msu mtr mdi mfa mca : Nat → Int32) (r : (Int32 × (Nat → Int32))) (hf : f_X4_goThroughSingles N mrn mhs mfi mle mst mca = some r) : Met l yX4_goThroughSingles wsX4_goThroughSingles rm_X4_goThroughSingles (PC D cI cZ sz [.ref (md 0)] (wM cI cZ md mth msz mrn mmy mdf mgu mhs mlv mba mgi mfi mle mst msu mtr mdi mfa mca)) (QV D cI cZ sz (wM cI cZ md mth msz mrn mmy mdf mgu mhs mlv mba mgi mfi mle mst msu mtr mdi mfa mca) (wM cI cZ md mth msz mrn mmy mdf mgu r.1 mlv mba mgi mfi mle mst msu mtr mdi mfa r.2)) 0 0 (va_A (wM cI cZ md mth msz mrn mmy mdf mgu mhs mlv mba mgi mfi mle mst msu mtr mdi mfa mca) sz) := by
  refine mk_v (cc := cX4_goThroughSingles) (maxL := 5) (lv0 := [(0, .ref (md 0))]) (by decide) rfl (Nat.le_of_ble_eq_true rfl) rfl ?_
  intro p e s m args below meth c ls A Q H hx hb hml hown hts hK hP hD hA hS hl hR
  have hinX4 : ∀ w ∈ wsX40, w ∈ wsX4_goThroughSingles := by decide +kernel
  rw [f_X4_goThroughSingles] at hf
  refine lv_iconst (v := 0) hx hb dX4_goThroughSingles_0 (by decide) ?_
  refine lv_istore_n (lv' := [(1, .int 0), (0, .ref (md 0))]) hx hb dX4_goThroughSingles_1 rfl hl (by decide) rfl (fun ls hl => ?_)
  have l2 : ∀ (nn : Nat) (v1_2 : Int32) (mhs_2 : Int32) (mca_2 : Nat → Int32), f_X4_goThroughSingles_L2 N mrn mfi mle mst nn v1_2 mhs_2 mca_2 = some r → ∀ (H : Heap) (locs : List Loc) (ls : Array Slot), va_P D vwCl (wM cI cZ md mth msz mrn mmy mdf mgu mhs_2 mlv mba mgi mfi mle mst msu mtr mdi mfa mca_2) H → va_D A (wM cI cZ md mth msz mrn mmy mdf mgu mhs_2 mlv mba mgi mfi mle mst msu mtr mdi mfa mca_2) → va_S A s.heap H locs → lv_has ls 5 [(0, .ref (md 0)), (1, .int v1_2)] → W p l e rm_X4_goThroughSingles s m args below meth c H locs 0 0 Q (F0 m 2 ls []) := by
    intro nn
    induction nn with
    | zero => intro _ _ _ hf; exact nomatch (show (none : Option _) = some r from hf)
    | succ n2 ih2 =>
      intro v1_2 mhs_2 mca_2 hf H locs ls hP hD hS hl
      rw [f_X4_goThroughSingles_L2.eq_2] at hf
      refine lv_iload_n hx hb dX4_goThroughSingles_2 rfl (lv_at hl 1 rfl) ?_
      refine lv_aload_n hx hb dX4_goThroughSingles_3 rfl (lv_at hl 0 rfl) ?_
      refine va_get (D := D) (ci := 4) (v := .int mrn) (C := RX4) (T := TX4) (N := 18) hx hb hts hinX4 hown hK.1 hP 0 rfl rfl 4 (by decide) (hts (.fieldLink RX4 59 "GridpuzzleModel" "runs" "I") (by decide +kernel)) (fun _ h9 => h9) rfl dX4_goThroughSingles_4 ?_
      refine lv_icmp_ge (tgt := 91) hx hb dX4_goThroughSingles_7 (by decide) (fun c_7 => ?_) (fun c_7 => ?_)
      · have hf := ite_t c_7 hf
        cases hf
        exact hR _ _ _ _ _ rfl hP hD hS dX4_goThroughSingles_91
      · have hf := ite_f c_7 hf
        refine lv_iconst (v := 0) hx hb dX4_goThroughSingles_10 (by decide) ?_
        refine lv_istore_n (lv' := [(2, .int 0), (0, .ref (md 0)), (1, .int v1_2)]) hx hb dX4_goThroughSingles_11 rfl hl (by decide) rfl (fun ls hl => ?_)
        obtain ⟨k85, hk85, hf⟩ := jn_some hf
        have w85 : ∀ (mhs_85 : Int32) (mca_85 : Nat → Int32), k85 mhs_85 mca_85 = some r → ∀ (H : Heap) (locs : List Loc) (ls : Array Slot), va_P D vwCl (wM cI cZ md mth msz mrn mmy mdf mgu mhs_85 mlv mba mgi mfi mle mst msu mtr mdi mfa mca_85) H → va_D A (wM cI cZ md mth msz mrn mmy mdf mgu mhs_85 mlv mba mgi mfi mle mst msu mtr mdi mfa mca_85) → va_S A s.heap H locs → lv_has ls 5 [(0, .ref (md 0)), (1, .int v1_2)] → W p l e rm_X4_goThroughSingles s m args below meth c H locs 0 0 Q (F0 m 85 ls []) := by
          intro mhs_85 mca_85 hf H locs ls hP hD hS hl
          rw [hk85] at hf
          try dsimp only at hf
          refine lv_iinc (v := (v1_2 + 1)) (lv' := [(1, .int (v1_2 + 1)), (0, .ref (md 0))]) hx hb dX4_goThroughSingles_85 hl (k := 1) rfl rfl (by decide) rfl (fun ls hl => ?_)
          refine lv_goto (tgt := 2) hx hb dX4_goThroughSingles_88 (by decide) ?_
          exact ih2 (v1_2 + 1) mhs_85 mca_85 hf _ _ _ hP hD hS (lv_sub hl [1, 0] rfl)
        have l12 : ∀ (nn : Nat) (v2_12 : Int32) (mhs_12 : Int32) (mca_12 : Nat → Int32), f_X4_goThroughSingles_L12 N v1_2 mfi mle mst k85 nn v2_12 mhs_12 mca_12 = some r → ∀ (H : Heap) (locs : List Loc) (ls : Array Slot), va_P D vwCl (wM cI cZ md mth msz mrn mmy mdf mgu mhs_12 mlv mba mgi mfi mle mst msu mtr mdi mfa mca_12) H → va_D A (wM cI cZ md mth msz mrn mmy mdf mgu mhs_12 mlv mba mgi mfi mle mst msu mtr mdi mfa mca_12) → va_S A s.heap H locs → lv_has ls 5 [(0, .ref (md 0)), (1, .int v1_2), (2, .int v2_12)] → W p l e rm_X4_goThroughSingles s m args below meth c H locs 0 0 Q (F0 m 12 ls []) := by
          intro nn
          induction nn with
          | zero => intro _ _ _ hf; exact nomatch (show (none : Option _) = some r from hf)
          | succ n12 ih12 =>
            intro v2_12 mhs_12 mca_12 hf H locs ls hP hD hS hl
            rw [f_X4_goThroughSingles_L12.eq_2] at hf
            refine lv_iload_n hx hb dX4_goThroughSingles_12 rfl (lv_at hl 2 rfl) ?_
            refine lv_aload_n hx hb dX4_goThroughSingles_13 rfl (lv_at hl 0 rfl) ?_
            refine va_get (D := D) (ci := 4) (v := .ref (md 4)) (C := RX4) (T := TX4) (N := 18) hx hb hts hinX4 hown hK.1 hP 0 rfl rfl 6 (by decide) (hts (.fieldLink RX4 24 "GridpuzzleModel" "lengths" "[I") (by decide +kernel)) (fun _ h9 => h9) rfl dX4_goThroughSingles_14 ?_
            refine lv_iload_n hx hb dX4_goThroughSingles_17 rfl (lv_at hl 1 rfl) ?_
            obtain ⟨hz18, hf⟩ := gd_some hf
            refine va_iald hx hb hK.1 hP 4 0 rfl rfl hz18 dX4_goThroughSingles_18 ?_
            refine lv_icmp_ge (tgt := 85) hx hb dX4_goThroughSingles_19 (by decide) (fun c_19 => ?_) (fun c_19 => ?_)
            · have hf := ite_t c_19 hf
              exact w85 mhs_12 mca_12 hf _ _ _ hP hD hS (lv_sub hl [0, 1] rfl)
            · have hf := ite_f c_19 hf
              refine lv_aload_n hx hb dX4_goThroughSingles_22 rfl (lv_at hl 0 rfl) ?_
              refine va_get (D := D) (ci := 4) (v := .ref (md 10)) (C := RX4) (T := TX4) (N := 18) hx hb hts hinX4 hown hK.1 hP 0 rfl rfl 15 (by decide) (hts (.fieldLink RX4 42 "GridpuzzleModel" "candidates" "[I") (by decide +kernel)) (fun _ h9 => h9) rfl dX4_goThroughSingles_23 ?_
              refine lv_aload_n hx hb dX4_goThroughSingles_26 rfl (lv_at hl 0 rfl) ?_
              refine lv_iload_n hx hb dX4_goThroughSingles_27 rfl (lv_at hl 1 rfl) ?_
              refine lv_iload_n hx hb dX4_goThroughSingles_28 rfl (lv_at hl 2 rfl) ?_
              obtain ⟨x29, hy29, hf⟩ := Option.bind_eq_some_iff.mp hf
              refine clV_i (As := [.int v1_2, .int v2_12]) (rest := [.ref (md 10)]) (wM cI cZ md mth msz mrn mmy mdf mgu mhs_12 mlv mba mgi mfi mle mst msu mtr mdi mfa mca_12) ⟨hx, hb, hml, hown, hts⟩ (K_X4_cellOf l D cI cZ md H.size mth msz mrn mmy mdf mgu mhs_12 mlv mba mgi mfi mle mst msu mtr mdi mfa mca_12 v1_2 v2_12 _ hy29) (cwV 2 hts gX4_goThroughSingles_X4_cellOf rfl rfl rfl (by decide +kernel) ⟨Nat.le_of_ble_eq_true rfl, Nat.le_of_ble_eq_true rfl⟩) hK hP hD hS hA hl.1 [0, 1, 2, 3, 4, 5, 6, 7, 8, 9, 10] (by decide) rfl rfl rfl 4 0 rfl rfl rfl rfl rfl (Nat.le_of_ble_eq_true rfl) dX4_goThroughSingles_29 ⟨Nat.le_of_ble_eq_true rfl, Nat.le_of_ble_eq_true rfl⟩ (fun H locs hP hD hS => ?_)
              obtain ⟨hz32, hf⟩ := gd_some hf
              refine va_iald hx hb hK.1 hP 10 0 rfl rfl hz32 dX4_goThroughSingles_32 ?_
              refine lv_istore_n (lv' := [(3, .int (mca_12 ((x29 : Int32)).toNatClampNeg)), (0, .ref (md 0)), (1, .int v1_2), (2, .int v2_12)]) hx hb dX4_goThroughSingles_33 rfl hl (by decide) rfl (fun ls hl => ?_)
              refine lv_iconst (v := 0) hx hb dX4_goThroughSingles_34 (by decide) ?_
              refine lv_istore (lv' := [(4, .int 0), (3, .int (mca_12 ((x29 : Int32)).toNatClampNeg)), (0, .ref (md 0)), (1, .int v1_2), (2, .int v2_12)]) hx hb dX4_goThroughSingles_35 hl (by decide) rfl (fun ls hl => ?_)
              obtain ⟨k79, hk79, hf⟩ := jn_some hf
              have w79 : ∀ (mhs_79 : Int32) (mca_79 : Nat → Int32), k79 mhs_79 mca_79 = some r → ∀ (H : Heap) (locs : List Loc) (ls : Array Slot), va_P D vwCl (wM cI cZ md mth msz mrn mmy mdf mgu mhs_79 mlv mba mgi mfi mle mst msu mtr mdi mfa mca_79) H → va_D A (wM cI cZ md mth msz mrn mmy mdf mgu mhs_79 mlv mba mgi mfi mle mst msu mtr mdi mfa mca_79) → va_S A s.heap H locs → lv_has ls 5 [(0, .ref (md 0)), (1, .int v1_2), (2, .int v2_12)] → W p l e rm_X4_goThroughSingles s m args below meth c H locs 0 0 Q (F0 m 79 ls []) := by
                intro mhs_79 mca_79 hf H locs ls hP hD hS hl
                rw [hk79] at hf
                try dsimp only at hf
                refine lv_iinc (v := (v2_12 + 1)) (lv' := [(2, .int (v2_12 + 1)), (0, .ref (md 0)), (1, .int v1_2)]) hx hb dX4_goThroughSingles_79 hl (k := 2) rfl rfl (by decide) rfl (fun ls hl => ?_)
                refine lv_goto (tgt := 12) hx hb dX4_goThroughSingles_82 (by decide) ?_
                exact ih12 (v2_12 + 1) mhs_79 mca_79 hf _ _ _ hP hD hS (lv_sub hl [1, 2, 0] rfl)
              have l37 : ∀ (nn : Nat) (v4_37 : Int32) (mhs_37 : Int32) (mca_37 : Nat → Int32), f_X4_goThroughSingles_L37 v1_2 v2_12 (mca_12 ((x29 : Int32)).toNatClampNeg) mfi mle mst k79 nn v4_37 mhs_37 mca_37 = some r → ∀ (H : Heap) (locs : List Loc) (ls : Array Slot), va_P D vwCl (wM cI cZ md mth msz mrn mmy mdf mgu mhs_37 mlv mba mgi mfi mle mst msu mtr mdi mfa mca_37) H → va_D A (wM cI cZ md mth msz mrn mmy mdf mgu mhs_37 mlv mba mgi mfi mle mst msu mtr mdi mfa mca_37) → va_S A s.heap H locs → lv_has ls 5 [(0, .ref (md 0)), (1, .int v1_2), (2, .int v2_12), (3, .int (mca_12 ((x29 : Int32)).toNatClampNeg)), (4, .int v4_37)] → W p l e rm_X4_goThroughSingles s m args below meth c H locs 0 0 Q (F0 m 37 ls []) := by
                intro nn
                induction nn with
                | zero => intro _ _ _ hf; exact nomatch (show (none : Option _) = some r from hf)
                | succ n37 ih37 =>
                  intro v4_37 mhs_37 mca_37 hf H locs ls hP hD hS hl
                  rw [f_X4_goThroughSingles_L37.eq_2] at hf
                  refine lv_iload hx hb dX4_goThroughSingles_37 (lv_at hl 4 rfl) ?_
                  refine lv_aload_n hx hb dX4_goThroughSingles_39 rfl (lv_at hl 0 rfl) ?_
                  refine va_get (D := D) (ci := 4) (v := .ref (md 4)) (C := RX4) (T := TX4) (N := 18) hx hb hts hinX4 hown hK.1 hP 0 rfl rfl 6 (by decide) (hts (.fieldLink RX4 24 "GridpuzzleModel" "lengths" "[I") (by decide +kernel)) (fun _ h9 => h9) rfl dX4_goThroughSingles_40 ?_
                  refine lv_iload_n hx hb dX4_goThroughSingles_43 rfl (lv_at hl 1 rfl) ?_
                  obtain ⟨hz44, hf⟩ := gd_some hf
                  refine va_iald hx hb hK.1 hP 4 0 rfl rfl hz44 dX4_goThroughSingles_44 ?_
                  refine lv_icmp_ge (tgt := 79) hx hb dX4_goThroughSingles_45 (by decide) (fun c_45 => ?_) (fun c_45 => ?_)
                  · have hf := ite_t c_45 hf
                    exact w79 mhs_37 mca_37 hf _ _ _ hP hD hS (lv_sub hl [0, 1, 2] rfl)
                  · have hf := ite_f c_45 hf
                    refine lv_iload_n hx hb dX4_goThroughSingles_48 rfl (lv_at hl 3 rfl) ?_
                    refine clS_i (As := [.int (mca_12 ((x29 : Int32)).toNatClampNeg)]) (rest := []) (wM cI cZ md mth msz mrn mmy mdf mgu mhs_37 mlv mba mgi mfi mle mst msu mtr mdi mfa mca_37) ⟨hx, hb, hml, hown, hts⟩ (K_X4_isSingle l D cI cZ H.size  (mca_12 ((x29 : Int32)).toNatClampNeg) _ rfl) (va_cwS 1 hts gX4_goThroughSingles_X4_isSingle rfl rfl rfl (by decide +kernel) ⟨Nat.le_of_ble_eq_true rfl, Nat.le_of_ble_eq_true rfl⟩) hK hP hD hS hA hl.1 [] (by decide) rfl rfl rfl rfl rfl (Nat.le_of_ble_eq_true rfl) dX4_goThroughSingles_49 ⟨Nat.le_of_ble_eq_true rfl, Nat.le_of_ble_eq_true rfl⟩ (fun H locs hP hD hS => ?_)
                    refine lv_if_eq (tgt := 79) hx hb dX4_goThroughSingles_52 (by decide) (fun c_52 => ?_) (fun c_52 => ?_)
                    · have hf := ite_t c_52 hf
                      exact w79 mhs_37 mca_37 hf _ _ _ hP hD hS (lv_sub hl [0, 1, 2] rfl)
                    · have hf := ite_f c_52 hf
                      refine lv_iload hx hb dX4_goThroughSingles_55 (lv_at hl 4 rfl) ?_
                      refine lv_iload_n hx hb dX4_goThroughSingles_57 rfl (lv_at hl 2 rfl) ?_
                      obtain ⟨k73, hk73, hf⟩ := jn_some hf
                      have w73 : ∀ (mhs_73 : Int32) (mca_73 : Nat → Int32), k73 mhs_73 mca_73 = some r → ∀ (H : Heap) (locs : List Loc) (ls : Array Slot), va_P D vwCl (wM cI cZ md mth msz mrn mmy mdf mgu mhs_73 mlv mba mgi mfi mle mst msu mtr mdi mfa mca_73) H → va_D A (wM cI cZ md mth msz mrn mmy mdf mgu mhs_73 mlv mba mgi mfi mle mst msu mtr mdi mfa mca_73) → va_S A s.heap H locs → lv_has ls 5 [(0, .ref (md 0)), (1, .int v1_2), (2, .int v2_12), (3, .int (mca_12 ((x29 : Int32)).toNatClampNeg)), (4, .int v4_37)] → W p l e rm_X4_goThroughSingles s m args below meth c H locs 0 0 Q (F0 m 73 ls []) := by
                        intro mhs_73 mca_73 hf H locs ls hP hD hS hl
                        rw [hk73] at hf
                        try dsimp only at hf
                        refine lv_iinc (v := (v4_37 + 1)) (lv' := [(4, .int (v4_37 + 1)), (0, .ref (md 0)), (1, .int v1_2), (2, .int v2_12), (3, .int (mca_12 ((x29 : Int32)).toNatClampNeg))]) hx hb dX4_goThroughSingles_73 hl (k := 4) rfl rfl (by decide) rfl (fun ls hl => ?_)
                        refine lv_goto (tgt := 37) hx hb dX4_goThroughSingles_76 (by decide) ?_
                        exact ih37 (v4_37 + 1) mhs_73 mca_73 hf _ _ _ hP hD hS (lv_sub hl [1, 2, 3, 4, 0] rfl)
                      refine lv_icmp_eq (tgt := 73) hx hb dX4_goThroughSingles_58 (by decide) (fun c_58 => ?_) (fun c_58 => ?_)
                      · have hf := ite_t c_58 hf
                        exact w73 mhs_37 mca_37 hf _ _ _ hP hD hS (lv_sub hl [0, 1, 2, 3, 4] rfl)
                      · have hf := ite_f c_58 hf
                        refine lv_aload_n hx hb dX4_goThroughSingles_61 rfl (lv_at hl 0 rfl) ?_
                        refine lv_aload_n hx hb dX4_goThroughSingles_62 rfl (lv_at hl 0 rfl) ?_
                        refine lv_iload_n hx hb dX4_goThroughSingles_63 rfl (lv_at hl 1 rfl) ?_
                        refine lv_iload hx hb dX4_goThroughSingles_64 (lv_at hl 4 rfl) ?_
                        obtain ⟨x66, hy66, hf⟩ := Option.bind_eq_some_iff.mp hf
                        refine clV_i (As := [.int v1_2, .int v4_37]) (rest := [.ref (md 0)]) (wM cI cZ md mth msz mrn mmy mdf mgu mhs_37 mlv mba mgi mfi mle mst msu mtr mdi mfa mca_37) ⟨hx, hb, hml, hown, hts⟩ (K_X4_cellOf l D cI cZ md H.size mth msz mrn mmy mdf mgu mhs_37 mlv mba mgi mfi mle mst msu mtr mdi mfa mca_37 v1_2 v4_37 _ hy66) (cwV 2 hts gX4_goThroughSingles_X4_cellOf rfl rfl rfl (by decide +kernel) ⟨Nat.le_of_ble_eq_true rfl, Nat.le_of_ble_eq_true rfl⟩) hK hP hD hS hA hl.1 [0, 1, 2, 3, 4, 5, 6, 7, 8, 9, 10] (by decide) rfl rfl rfl 4 0 rfl rfl rfl rfl rfl (Nat.le_of_ble_eq_true rfl) dX4_goThroughSingles_66 ⟨Nat.le_of_ble_eq_true rfl, Nat.le_of_ble_eq_true rfl⟩ (fun H locs hP hD hS => ?_)
                        refine lv_iload_n hx hb dX4_goThroughSingles_69 rfl (lv_at hl 3 rfl) ?_
                        obtain ⟨x70, hy70, hf⟩ := Option.bind_eq_some_iff.mp hf
                        refine clV_v (As := [.int x66, .int (mca_12 ((x29 : Int32)).toNatClampNeg)]) (rest := []) (wM cI cZ md mth msz mrn mmy mdf mgu x70.1 mlv mba mgi mfi mle mst msu mtr mdi mfa x70.2) ⟨hx, hb, hml, hown, hts⟩ (K_X4_take l D cI cZ md H.size mth msz mrn mmy mdf mgu mhs_37 mlv mba mgi mfi mle mst msu mtr mdi mfa mca_37 x66 (mca_12 ((x29 : Int32)).toNatClampNeg) _ hy70) (cwV 2 hts gX4_goThroughSingles_X4_take rfl rfl rfl (by decide +kernel) ⟨Nat.le_of_ble_eq_true rfl, Nat.le_of_ble_eq_true rfl⟩) hK hP hD hS hA hl.1 [0, 1, 2, 3, 4, 5, 6, 7, 8, 9, 10] (by decide) rfl rfl rfl 4 0 rfl rfl rfl rfl rfl (Nat.le_of_ble_eq_true rfl) dX4_goThroughSingles_70 ⟨Nat.le_of_ble_eq_true rfl, Nat.le_of_ble_eq_true rfl⟩ (fun H locs hP hD hS => ?_)
                        exact w73 x70.1 x70.2 hf _ _ _ hP hD hS (lv_sub hl [0, 1, 2, 3, 4] rfl)
              exact l37 N 0 mhs_12 mca_12 hf _ _ _ hP hD hS (lv_sub hl [2, 3, 4, 1, 0] rfl)
        exact l12 N 0 mhs_2 mca_2 hf _ _ _ hP hD hS (lv_sub hl [1, 2, 0] rfl)
  exact l2 N 0 mhs mca hf _ _ _ hP hD hS (lv_sub hl [1, 0] rfl)
def rm_X4_sumOfSet : Room := { frames := 0, cells := 0, slots := 0, locals := 0 }
set_option maxRecDepth 100000 in
set_option maxHeartbeats 8000000 in
theorem K_X4_sumOfSet (l : Launch) (D : va_G) (cI cZ : ClassId)  (sz : Nat) (N : Nat)  (p0 : Int32) (r : (Int32)) (hf : f_X4_sumOfSet N p0 = some r) : Met l yX4_sumOfSet wsX4_sumOfSet rm_X4_sumOfSet (PC D cI cZ sz [.int p0] (wE)) (QI D cI cZ sz (wE) r (wE)) 0 0 (va_A (wE) sz) := by
  refine mk_i (cc := cX4_sumOfSet) (maxL := 3) (lv0 := [(0, .int p0)]) (by decide) rfl (Nat.le_of_ble_eq_true rfl) rfl ?_
  intro p e s m args below meth c ls A Q H hx hb hml hown hts hK hP hD hA hS hl hR
  rw [f_X4_sumOfSet] at hf
  refine lv_iconst (v := 0) hx hb dX4_sumOfSet_0 (by decide) ?_
  refine lv_istore_n (lv' := [(1, .int 0), (0, .int p0)]) hx hb dX4_sumOfSet_1 rfl hl (by decide) rfl (fun ls hl => ?_)
  refine lv_iconst (v := 1) hx hb dX4_sumOfSet_2 (by decide) ?_
  refine lv_istore_n (lv' := [(2, .int 1), (1, .int 0), (0, .int p0)]) hx hb dX4_sumOfSet_3 rfl hl (by decide) rfl (fun ls hl => ?_)
  have l4 : ∀ (nn : Nat) (v1_4 : Int32) (v2_4 : Int32), f_X4_sumOfSet_L4 p0 nn v1_4 v2_4 = some r → ∀ (H : Heap) (locs : List Loc) (ls : Array Slot), va_P D vwCl (wE) H → va_D A (wE) → va_S A s.heap H locs → lv_has ls 3 [(0, .int p0), (1, .int v1_4), (2, .int v2_4)] → W p l e rm_X4_sumOfSet s m args below meth c H locs 0 0 Q (F0 m 4 ls []) := by
    intro nn
    induction nn with
    | zero => intro _ _ hf; exact nomatch (show (none : Option _) = some r from hf)
    | succ n4 ih4 =>
      intro v1_4 v2_4 hf H locs ls hP hD hS hl
      rw [f_X4_sumOfSet_L4.eq_2] at hf
      refine lv_iload_n hx hb dX4_sumOfSet_4 rfl (lv_at hl 2 rfl) ?_
      refine lv_bipush (v := 9) hx hb dX4_sumOfSet_5 (by decide) ?_
      refine lv_icmp_gt (tgt := 26) hx hb dX4_sumOfSet_7 (by decide) (fun c_7 => ?_) (fun c_7 => ?_)
      · have hf := ite_t c_7 hf
        refine lv_iload_n hx hb dX4_sumOfSet_26 rfl (lv_at hl 1 rfl) ?_
        cases hf
        exact hR _ _ _ _ _ _ rfl rfl hP hD hS dX4_sumOfSet_27
      · have hf := ite_f c_7 hf
        refine lv_iload_n hx hb dX4_sumOfSet_10 rfl (lv_at hl 1 rfl) ?_
        refine lv_iload_n hx hb dX4_sumOfSet_11 rfl (lv_at hl 0 rfl) ?_
        refine lv_iload_n hx hb dX4_sumOfSet_12 rfl (lv_at hl 2 rfl) ?_
        refine lv_ishr hx hb dX4_sumOfSet_13 ?_
        refine lv_iconst (v := 1) hx hb dX4_sumOfSet_14 (by decide) ?_
        refine lv_iand hx hb dX4_sumOfSet_15 ?_
        refine lv_iload_n hx hb dX4_sumOfSet_16 rfl (lv_at hl 2 rfl) ?_
        refine lv_imul hx hb dX4_sumOfSet_17 ?_
        refine lv_iadd hx hb dX4_sumOfSet_18 ?_
        refine lv_istore_n (lv' := [(1, .int (v1_4 + (((p0 >>> (v2_4 &&& 31)) &&& 1) * v2_4))), (0, .int p0), (2, .int v2_4)]) hx hb dX4_sumOfSet_19 rfl hl (by decide) rfl (fun ls hl => ?_)
        refine lv_iinc (v := (v2_4 + 1)) (lv' := [(2, .int (v2_4 + 1)), (1, .int (v1_4 + (((p0 >>> (v2_4 &&& 31)) &&& 1) * v2_4))), (0, .int p0)]) hx hb dX4_sumOfSet_20 hl (k := 2) rfl rfl (by decide) rfl (fun ls hl => ?_)
        refine lv_goto (tgt := 4) hx hb dX4_sumOfSet_23 (by decide) ?_
        exact ih4 (v1_4 + (((p0 >>> (v2_4 &&& 31)) &&& 1) * v2_4)) (v2_4 + 1) hf _ _ _ hP hD hS (lv_sub hl [2, 1, 0] rfl)
  exact l4 N 0 1 hf _ _ _ hP hD hS (lv_sub hl [2, 1, 0] rfl)
def rm_X4_bits : Room := { frames := 0, cells := 0, slots := 0, locals := 0 }
set_option maxRecDepth 100000 in
set_option maxHeartbeats 8000000 in
theorem K_X4_bits (l : Launch) (D : va_G) (cI cZ : ClassId)  (sz : Nat) (N : Nat)  (p0 : Int32) (r : (Int32)) (hf : f_X4_bits N p0 = some r) : Met l yX4_bits wsX4_bits rm_X4_bits (PC D cI cZ sz [.int p0] (wE)) (QI D cI cZ sz (wE) r (wE)) 0 0 (va_A (wE) sz) := by
  refine mk_i (cc := cX4_bits) (maxL := 3) (lv0 := [(0, .int p0)]) (by decide) rfl (Nat.le_of_ble_eq_true rfl) rfl ?_
  intro p e s m args below meth c ls A Q H hx hb hml hown hts hK hP hD hA hS hl hR
  rw [f_X4_bits] at hf
  refine lv_iconst (v := 0) hx hb dX4_bits_0 (by decide) ?_
  refine lv_istore_n (lv' := [(1, .int 0), (0, .int p0)]) hx hb dX4_bits_1 rfl hl (by decide) rfl (fun ls hl => ?_)
  refine lv_iconst (v := 1) hx hb dX4_bits_2 (by decide) ?_
  refine lv_istore_n (lv' := [(2, .int 1), (1, .int 0), (0, .int p0)]) hx hb dX4_bits_3 rfl hl (by decide) rfl (fun ls hl => ?_)
  have l4 : ∀ (nn : Nat) (v1_4 : Int32) (v2_4 : Int32), f_X4_bits_L4 p0 nn v1_4 v2_4 = some r → ∀ (H : Heap) (locs : List Loc) (ls : Array Slot), va_P D vwCl (wE) H → va_D A (wE) → va_S A s.heap H locs → lv_has ls 3 [(0, .int p0), (1, .int v1_4), (2, .int v2_4)] → W p l e rm_X4_bits s m args below meth c H locs 0 0 Q (F0 m 4 ls []) := by
    intro nn
    induction nn with
    | zero => intro _ _ hf; exact nomatch (show (none : Option _) = some r from hf)
    | succ n4 ih4 =>
      intro v1_4 v2_4 hf H locs ls hP hD hS hl
      rw [f_X4_bits_L4.eq_2] at hf
      refine lv_iload_n hx hb dX4_bits_4 rfl (lv_at hl 2 rfl) ?_
      refine lv_bipush (v := 9) hx hb dX4_bits_5 (by decide) ?_
      refine lv_icmp_gt (tgt := 24) hx hb dX4_bits_7 (by decide) (fun c_7 => ?_) (fun c_7 => ?_)
      · have hf := ite_t c_7 hf
        refine lv_iload_n hx hb dX4_bits_24 rfl (lv_at hl 1 rfl) ?_
        cases hf
        exact hR _ _ _ _ _ _ rfl rfl hP hD hS dX4_bits_25
      · have hf := ite_f c_7 hf
        refine lv_iload_n hx hb dX4_bits_10 rfl (lv_at hl 1 rfl) ?_
        refine lv_iload_n hx hb dX4_bits_11 rfl (lv_at hl 0 rfl) ?_
        refine lv_iload_n hx hb dX4_bits_12 rfl (lv_at hl 2 rfl) ?_
        refine lv_ishr hx hb dX4_bits_13 ?_
        refine lv_iconst (v := 1) hx hb dX4_bits_14 (by decide) ?_
        refine lv_iand hx hb dX4_bits_15 ?_
        refine lv_iadd hx hb dX4_bits_16 ?_
        refine lv_istore_n (lv' := [(1, .int (v1_4 + ((p0 >>> (v2_4 &&& 31)) &&& 1))), (0, .int p0), (2, .int v2_4)]) hx hb dX4_bits_17 rfl hl (by decide) rfl (fun ls hl => ?_)
        refine lv_iinc (v := (v2_4 + 1)) (lv' := [(2, .int (v2_4 + 1)), (1, .int (v1_4 + ((p0 >>> (v2_4 &&& 31)) &&& 1))), (0, .int p0)]) hx hb dX4_bits_18 hl (k := 2) rfl rfl (by decide) rfl (fun ls hl => ?_)
        refine lv_goto (tgt := 4) hx hb dX4_bits_21 (by decide) ?_
        exact ih4 (v1_4 + ((p0 >>> (v2_4 &&& 31)) &&& 1)) (v2_4 + 1) hf _ _ _ hP hD hS (lv_sub hl [2, 1, 0] rfl)
  exact l4 N 0 1 hf _ _ _ hP hD hS (lv_sub hl [2, 1, 0] rfl)
def rm_X4_goThroughSets : Room := { frames := 1, cells := 0, slots := 0, locals := 22 }
set_option maxRecDepth 100000 in
set_option maxHeartbeats 8000000 in
theorem K_X4_goThroughSets (l : Launch) (D : va_G) (cI cZ : ClassId) (md : Nat → Nat) (sz : Nat) (N : Nat) (mth msz mrn mmy mdf mgu mhs mlv : Int32) (mba mgi mfi mle mst msu mtr mdi mfa mca : Nat → Int32) (r : (Int32 × (Nat → Int32))) (hf : f_X4_goThroughSets N mrn mhs mfi mle mst msu mca = some r) : Met l yX4_goThroughSets wsX4_goThroughSets rm_X4_goThroughSets (PC D cI cZ sz [.ref (md 0)] (wM cI cZ md mth msz mrn mmy mdf mgu mhs mlv mba mgi mfi mle mst msu mtr mdi mfa mca)) (QV D cI cZ sz (wM cI cZ md mth msz mrn mmy mdf mgu mhs mlv mba mgi mfi mle mst msu mtr mdi mfa mca) (wM cI cZ md mth msz mrn mmy mdf mgu r.1 mlv mba mgi mfi mle mst msu mtr mdi mfa r.2)) 0 0 (va_A (wM cI cZ md mth msz mrn mmy mdf mgu mhs mlv mba mgi mfi mle mst msu mtr mdi mfa mca) sz) := by
  refine mk_v (cc := cX4_goThroughSets) (maxL := 6) (lv0 := [(0, .ref (md 0))]) (by decide) rfl (Nat.le_of_ble_eq_true rfl) rfl ?_
  intro p e s m args below meth c ls A Q H hx hb hml hown hts hK hP hD hA hS hl hR
  have hinX4 : ∀ w ∈ wsX40, w ∈ wsX4_goThroughSets := by decide +kernel
  rw [f_X4_goThroughSets] at hf
  refine lv_iconst (v := 0) hx hb dX4_goThroughSets_0 (by decide) ?_
  refine lv_istore_n (lv' := [(1, .int 0), (0, .ref (md 0))]) hx hb dX4_goThroughSets_1 rfl hl (by decide) rfl (fun ls hl => ?_)
  have l2 : ∀ (nn : Nat) (v1_2 : Int32) (mhs_2 : Int32) (mca_2 : Nat → Int32), f_X4_goThroughSets_L2 N mrn mfi mle mst msu nn v1_2 mhs_2 mca_2 = some r → ∀ (H : Heap) (locs : List Loc) (ls : Array Slot), va_P D vwCl (wM cI cZ md mth msz mrn mmy mdf mgu mhs_2 mlv mba mgi mfi mle mst msu mtr mdi mfa mca_2) H → va_D A (wM cI cZ md mth msz mrn mmy mdf mgu mhs_2 mlv mba mgi mfi mle mst msu mtr mdi mfa mca_2) → va_S A s.heap H locs → lv_has ls 6 [(0, .ref (md 0)), (1, .int v1_2)] → W p l e rm_X4_goThroughSets s m args below meth c H locs 0 0 Q (F0 m 2 ls []) := by
    intro nn
    induction nn with
    | zero => intro _ _ _ hf; exact nomatch (show (none : Option _) = some r from hf)
    | succ n2 ih2 =>
      intro v1_2 mhs_2 mca_2 hf H locs ls hP hD hS hl
      rw [f_X4_goThroughSets_L2.eq_2] at hf
      refine lv_iload_n hx hb dX4_goThroughSets_2 rfl (lv_at hl 1 rfl) ?_
      refine lv_aload_n hx hb dX4_goThroughSets_3 rfl (lv_at hl 0 rfl) ?_
      refine va_get (D := D) (ci := 4) (v := .int mrn) (C := RX4) (T := TX4) (N := 18) hx hb hts hinX4 hown hK.1 hP 0 rfl rfl 4 (by decide) (hts (.fieldLink RX4 59 "GridpuzzleModel" "runs" "I") (by decide +kernel)) (fun _ h9 => h9) rfl dX4_goThroughSets_4 ?_
      refine lv_icmp_ge (tgt := 193) hx hb dX4_goThroughSets_7 (by decide) (fun c_7 => ?_) (fun c_7 => ?_)
      · have hf := ite_t c_7 hf
        cases hf
        exact hR _ _ _ _ _ rfl hP hD hS dX4_goThroughSets_193
      · have hf := ite_f c_7 hf
        refine lv_iconst (v := 0) hx hb dX4_goThroughSets_10 (by decide) ?_
        refine lv_istore_n (lv' := [(2, .int 0), (0, .ref (md 0)), (1, .int v1_2)]) hx hb dX4_goThroughSets_11 rfl hl (by decide) rfl (fun ls hl => ?_)
        refine lv_iconst (v := 0) hx hb dX4_goThroughSets_12 (by decide) ?_
        refine lv_istore_n (lv' := [(3, .int 0), (2, .int 0), (0, .ref (md 0)), (1, .int v1_2)]) hx hb dX4_goThroughSets_13 rfl hl (by decide) rfl (fun ls hl => ?_)
        refine lv_iconst (v := 0) hx hb dX4_goThroughSets_14 (by decide) ?_
        refine lv_istore (lv' := [(4, .int 0), (3, .int 0), (2, .int 0), (0, .ref (md 0)), (1, .int v1_2)]) hx hb dX4_goThroughSets_15 hl (by decide) rfl (fun ls hl => ?_)
        obtain ⟨k65, hk65, hf⟩ := jn_some hf
        have w65 : ∀ (v2_65 : Int32), k65 v2_65 = some r → ∀ (H : Heap) (locs : List Loc) (ls : Array Slot), va_P D vwCl (wM cI cZ md mth msz mrn mmy mdf mgu mhs_2 mlv mba mgi mfi mle mst msu mtr mdi mfa mca_2) H → va_D A (wM cI cZ md mth msz mrn mmy mdf mgu mhs_2 mlv mba mgi mfi mle mst msu mtr mdi mfa mca_2) → va_S A s.heap H locs → lv_has ls 6 [(0, .ref (md 0)), (1, .int v1_2), (2, .int v2_65), (3, .int 0)] → W p l e rm_X4_goThroughSets s m args below meth c H locs 0 0 Q (F0 m 65 ls []) := by
          intro v2_65 hf H locs ls hP hD hS hl
          rw [hk65] at hf
          try dsimp only at hf
          refine lv_iconst (v := 0) hx hb dX4_goThroughSets_65 (by decide) ?_
          refine lv_istore (lv' := [(4, .int 0), (0, .ref (md 0)), (1, .int v1_2), (2, .int v2_65), (3, .int 0)]) hx hb dX4_goThroughSets_66 hl (by decide) rfl (fun ls hl => ?_)
          obtain ⟨k140, hk140, hf⟩ := jn_some hf
          have w140 : ∀ (v3_140 : Int32), k140 v3_140 = some r → ∀ (H : Heap) (locs : List Loc) (ls : Array Slot), va_P D vwCl (wM cI cZ md mth msz mrn mmy mdf mgu mhs_2 mlv mba mgi mfi mle mst msu mtr mdi mfa mca_2) H → va_D A (wM cI cZ md mth msz mrn mmy mdf mgu mhs_2 mlv mba mgi mfi mle mst msu mtr mdi mfa mca_2) → va_S A s.heap H locs → lv_has ls 6 [(0, .ref (md 0)), (1, .int v1_2), (3, .int v3_140)] → W p l e rm_X4_goThroughSets s m args below meth c H locs 0 0 Q (F0 m 140 ls []) := by
            intro v3_140 hf H locs ls hP hD hS hl
            rw [hk140] at hf
            try dsimp only at hf
            refine lv_iconst (v := 0) hx hb dX4_goThroughSets_140 (by decide) ?_
            refine lv_istore (lv' := [(4, .int 0), (0, .ref (md 0)), (1, .int v1_2), (3, .int v3_140)]) hx hb dX4_goThroughSets_141 hl (by decide) rfl (fun ls hl => ?_)
            obtain ⟨k187, hk187, hf⟩ := jn_some hf
            have w187 : ∀ (mhs_187 : Int32) (mca_187 : Nat → Int32), k187 mhs_187 mca_187 = some r → ∀ (H : Heap) (locs : List Loc) (ls : Array Slot), va_P D vwCl (wM cI cZ md mth msz mrn mmy mdf mgu mhs_187 mlv mba mgi mfi mle mst msu mtr mdi mfa mca_187) H → va_D A (wM cI cZ md mth msz mrn mmy mdf mgu mhs_187 mlv mba mgi mfi mle mst msu mtr mdi mfa mca_187) → va_S A s.heap H locs → lv_has ls 6 [(0, .ref (md 0)), (1, .int v1_2)] → W p l e rm_X4_goThroughSets s m args below meth c H locs 0 0 Q (F0 m 187 ls []) := by
              intro mhs_187 mca_187 hf H locs ls hP hD hS hl
              rw [hk187] at hf
              try dsimp only at hf
              refine lv_iinc (v := (v1_2 + 1)) (lv' := [(1, .int (v1_2 + 1)), (0, .ref (md 0))]) hx hb dX4_goThroughSets_187 hl (k := 1) rfl rfl (by decide) rfl (fun ls hl => ?_)
              refine lv_goto (tgt := 2) hx hb dX4_goThroughSets_190 (by decide) ?_
              exact ih2 (v1_2 + 1) mhs_187 mca_187 hf _ _ _ hP hD hS (lv_sub hl [1, 0] rfl)
            have l143 : ∀ (nn : Nat) (v4_143 : Int32) (mhs_143 : Int32) (mca_143 : Nat → Int32), f_X4_goThroughSets_L143 v1_2 v3_140 mfi mle mst msu k187 nn v4_143 mhs_143 mca_143 = some r → ∀ (H : Heap) (locs : List Loc) (ls : Array Slot), va_P D vwCl (wM cI cZ md mth msz mrn mmy mdf mgu mhs_143 mlv mba mgi mfi mle mst msu mtr mdi mfa mca_143) H → va_D A (wM cI cZ md mth msz mrn mmy mdf mgu mhs_143 mlv mba mgi mfi mle mst msu mtr mdi mfa mca_143) → va_S A s.heap H locs → lv_has ls 6 [(0, .ref (md 0)), (1, .int v1_2), (3, .int v3_140), (4, .int v4_143)] → W p l e rm_X4_goThroughSets s m args below meth c H locs 0 0 Q (F0 m 143 ls []) := by
              intro nn
              induction nn with
              | zero => intro _ _ _ hf; exact nomatch (show (none : Option _) = some r from hf)
              | succ n143 ih143 =>
                intro v4_143 mhs_143 mca_143 hf H locs ls hP hD hS hl
                rw [f_X4_goThroughSets_L143.eq_2] at hf
                refine lv_iload hx hb dX4_goThroughSets_143 (lv_at hl 3 rfl) ?_
                refine lv_aload_n hx hb dX4_goThroughSets_145 rfl (lv_at hl 0 rfl) ?_
                refine va_get (D := D) (ci := 4) (v := .ref (md 4)) (C := RX4) (T := TX4) (N := 18) hx hb hts hinX4 hown hK.1 hP 0 rfl rfl 6 (by decide) (hts (.fieldLink RX4 24 "GridpuzzleModel" "lengths" "[I") (by decide +kernel)) (fun _ h9 => h9) rfl dX4_goThroughSets_146 ?_
                refine lv_iload_n hx hb dX4_goThroughSets_149 rfl (lv_at hl 1 rfl) ?_
                obtain ⟨hz150, hf⟩ := gd_some hf
                refine va_iald hx hb hK.1 hP 4 0 rfl rfl hz150 dX4_goThroughSets_150 ?_
                refine lv_icmp_ge (tgt := 187) hx hb dX4_goThroughSets_151 (by decide) (fun c_151 => ?_) (fun c_151 => ?_)
                · have hf := ite_t c_151 hf
                  exact w187 mhs_143 mca_143 hf _ _ _ hP hD hS (lv_sub hl [0, 1] rfl)
                · have hf := ite_f c_151 hf
                  refine lv_aload_n hx hb dX4_goThroughSets_154 rfl (lv_at hl 0 rfl) ?_
                  refine va_get (D := D) (ci := 4) (v := .ref (md 6)) (C := RX4) (T := TX4) (N := 18) hx hb hts hinX4 hown hK.1 hP 0 rfl rfl 8 (by decide) (hts (.fieldLink RX4 30 "GridpuzzleModel" "sums" "[I") (by decide +kernel)) (fun _ h9 => h9) rfl dX4_goThroughSets_155 ?_
                  refine lv_iload_n hx hb dX4_goThroughSets_158 rfl (lv_at hl 1 rfl) ?_
                  obtain ⟨hz159, hf⟩ := gd_some hf
                  refine va_iald hx hb hK.1 hP 6 0 rfl rfl hz159 dX4_goThroughSets_159 ?_
                  refine lv_if_le (tgt := 187) hx hb dX4_goThroughSets_160 (by decide) (fun c_160 => ?_) (fun c_160 => ?_)
                  · have hf := ite_t c_160 hf
                    exact w187 mhs_143 mca_143 hf _ _ _ hP hD hS (lv_sub hl [0, 1] rfl)
                  · have hf := ite_f c_160 hf
                    refine lv_aload_n hx hb dX4_goThroughSets_163 rfl (lv_at hl 0 rfl) ?_
                    refine lv_aload_n hx hb dX4_goThroughSets_164 rfl (lv_at hl 0 rfl) ?_
                    refine lv_iload_n hx hb dX4_goThroughSets_165 rfl (lv_at hl 1 rfl) ?_
                    refine lv_iload hx hb dX4_goThroughSets_166 (lv_at hl 3 rfl) ?_
                    obtain ⟨x168, hy168, hf⟩ := Option.bind_eq_some_iff.mp hf
                    refine clV_i (As := [.int v1_2, .int v4_143]) (rest := [.ref (md 0)]) (wM cI cZ md mth msz mrn mmy mdf mgu mhs_143 mlv mba mgi mfi mle mst msu mtr mdi mfa mca_143) ⟨hx, hb, hml, hown, hts⟩ (K_X4_cellOf l D cI cZ md H.size mth msz mrn mmy mdf mgu mhs_143 mlv mba mgi mfi mle mst msu mtr mdi mfa mca_143 v1_2 v4_143 _ hy168) (cwV 2 hts gX4_goThroughSets_X4_cellOf rfl rfl rfl (by decide +kernel) ⟨Nat.le_of_ble_eq_true rfl, Nat.le_of_ble_eq_true rfl⟩) hK hP hD hS hA hl.1 [0, 1, 2, 3, 4, 5, 6, 7, 8, 9, 10] (by decide) rfl rfl rfl 4 0 rfl rfl rfl rfl rfl (Nat.le_of_ble_eq_true rfl) dX4_goThroughSets_168 ⟨Nat.le_of_ble_eq_true rfl, Nat.le_of_ble_eq_true rfl⟩ (fun H locs hP hD hS => ?_)
                    refine lv_sipush (v := 1022) hx hb dX4_goThroughSets_171 (by decide) ?_
                    refine lv_iload_n hx hb dX4_goThroughSets_174 rfl (lv_at hl 2 rfl) ?_
                    refine lv_iconst (v := (-1)) hx hb dX4_goThroughSets_175 (by decide) ?_
                    refine lv_ixor hx hb dX4_goThroughSets_176 ?_
                    refine lv_iand hx hb dX4_goThroughSets_177 ?_
                    obtain ⟨x178, hy178, hf⟩ := Option.bind_eq_some_iff.mp hf
                    refine clV_v (As := [.int x168, .int (1022 &&& (v3_140 ^^^ (-1)))]) (rest := []) (wM cI cZ md mth msz mrn mmy mdf mgu x178.1 mlv mba mgi mfi mle mst msu mtr mdi mfa x178.2) ⟨hx, hb, hml, hown, hts⟩ (K_X4_take l D cI cZ md H.size mth msz mrn mmy mdf mgu mhs_143 mlv mba mgi mfi mle mst msu mtr mdi mfa mca_143 x168 (1022 &&& (v3_140 ^^^ (-1))) _ hy178) (cwV 2 hts gX4_goThroughSets_X4_take rfl rfl rfl (by decide +kernel) ⟨Nat.le_of_ble_eq_true rfl, Nat.le_of_ble_eq_true rfl⟩) hK hP hD hS hA hl.1 [0, 1, 2, 3, 4, 5, 6, 7, 8, 9, 10] (by decide) rfl rfl rfl 4 0 rfl rfl rfl rfl rfl (Nat.le_of_ble_eq_true rfl) dX4_goThroughSets_178 ⟨Nat.le_of_ble_eq_true rfl, Nat.le_of_ble_eq_true rfl⟩ (fun H locs hP hD hS => ?_)
                    refine lv_iinc (v := (v4_143 + 1)) (lv' := [(4, .int (v4_143 + 1)), (0, .ref (md 0)), (1, .int v1_2), (3, .int v3_140)]) hx hb dX4_goThroughSets_181 hl (k := 3) rfl rfl (by decide) rfl (fun ls hl => ?_)
                    refine lv_goto (tgt := 143) hx hb dX4_goThroughSets_184 (by decide) ?_
                    exact ih143 (v4_143 + 1) x178.1 x178.2 hf _ _ _ hP hD hS (lv_sub hl [1, 2, 3, 0] rfl)
            exact l143 N 0 mhs_2 mca_2 hf _ _ _ hP hD hS (lv_sub hl [1, 2, 3, 0] rfl)
          have l68 : ∀ (nn : Nat) (v3_68 : Int32) (v4_68 : Int32), f_X4_goThroughSets_L68 N v1_2 v2_65 mle msu k140 nn v3_68 v4_68 = some r → ∀ (H : Heap) (locs : List Loc) (ls : Array Slot), va_P D vwCl (wM cI cZ md mth msz mrn mmy mdf mgu mhs_2 mlv mba mgi mfi mle mst msu mtr mdi mfa mca_2) H → va_D A (wM cI cZ md mth msz mrn mmy mdf mgu mhs_2 mlv mba mgi mfi mle mst msu mtr mdi mfa mca_2) → va_S A s.heap H locs → lv_has ls 6 [(0, .ref (md 0)), (1, .int v1_2), (2, .int v2_65), (3, .int v3_68), (4, .int v4_68)] → W p l e rm_X4_goThroughSets s m args below meth c H locs 0 0 Q (F0 m 68 ls []) := by
            intro nn
            induction nn with
            | zero => intro _ _ hf; exact nomatch (show (none : Option _) = some r from hf)
            | succ n68 ih68 =>
              intro v3_68 v4_68 hf H locs ls hP hD hS hl
              rw [f_X4_goThroughSets_L68.eq_2] at hf
              refine lv_iload hx hb dX4_goThroughSets_68 (lv_at hl 4 rfl) ?_
              refine lv_sipush (v := 1022) hx hb dX4_goThroughSets_70 (by decide) ?_
              refine lv_icmp_gt (tgt := 140) hx hb dX4_goThroughSets_73 (by decide) (fun c_73 => ?_) (fun c_73 => ?_)
              · have hf := ite_t c_73 hf
                exact w140 v3_68 hf _ _ _ hP hD hS (lv_sub hl [0, 1, 3] rfl)
              · have hf := ite_f c_73 hf
                refine lv_iload hx hb dX4_goThroughSets_76 (lv_at hl 4 rfl) ?_
                obtain ⟨x78, hy78, hf⟩ := Option.bind_eq_some_iff.mp hf
                refine clS_i (As := [.int v4_68]) (rest := []) (wM cI cZ md mth msz mrn mmy mdf mgu mhs_2 mlv mba mgi mfi mle mst msu mtr mdi mfa mca_2) ⟨hx, hb, hml, hown, hts⟩ (K_X4_bits l D cI cZ H.size N v4_68 _ hy78) (va_cwS 1 hts gX4_goThroughSets_X4_bits rfl rfl rfl (by decide +kernel) ⟨Nat.le_of_ble_eq_true rfl, Nat.le_of_ble_eq_true rfl⟩) hK hP hD hS hA hl.1 [] (by decide) rfl rfl rfl rfl rfl (Nat.le_of_ble_eq_true rfl) dX4_goThroughSets_78 ⟨Nat.le_of_ble_eq_true rfl, Nat.le_of_ble_eq_true rfl⟩ (fun H locs hP hD hS => ?_)
                refine lv_aload_n hx hb dX4_goThroughSets_81 rfl (lv_at hl 0 rfl) ?_
                refine va_get (D := D) (ci := 4) (v := .ref (md 4)) (C := RX4) (T := TX4) (N := 18) hx hb hts hinX4 hown hK.1 hP 0 rfl rfl 6 (by decide) (hts (.fieldLink RX4 24 "GridpuzzleModel" "lengths" "[I") (by decide +kernel)) (fun _ h9 => h9) rfl dX4_goThroughSets_82 ?_
                refine lv_iload_n hx hb dX4_goThroughSets_85 rfl (lv_at hl 1 rfl) ?_
                obtain ⟨hz86, hf⟩ := gd_some hf
                refine va_iald hx hb hK.1 hP 4 0 rfl rfl hz86 dX4_goThroughSets_86 ?_
                obtain ⟨k118, hk118, hf⟩ := jn_some hf
                have w118 : ∀ (t0_118 : Int32), k118 t0_118 = some r → ∀ (H : Heap) (locs : List Loc) (ls : Array Slot), va_P D vwCl (wM cI cZ md mth msz mrn mmy mdf mgu mhs_2 mlv mba mgi mfi mle mst msu mtr mdi mfa mca_2) H → va_D A (wM cI cZ md mth msz mrn mmy mdf mgu mhs_2 mlv mba mgi mfi mle mst msu mtr mdi mfa mca_2) → va_S A s.heap H locs → lv_has ls 6 [(0, .ref (md 0)), (1, .int v1_2), (2, .int v2_65), (3, .int v3_68), (4, .int v4_68)] → W p l e rm_X4_goThroughSets s m args below meth c H locs 0 0 Q (F0 m 118 ls [.int t0_118]) := by
                  intro t0_118 hf H locs ls hP hD hS hl
                  rw [hk118] at hf
                  try dsimp only at hf
                  refine lv_istore (lv' := [(5, .int t0_118), (0, .ref (md 0)), (1, .int v1_2), (2, .int v2_65), (3, .int v3_68), (4, .int v4_68)]) hx hb dX4_goThroughSets_118 hl (by decide) rfl (fun ls hl => ?_)
                  refine lv_iload_n hx hb dX4_goThroughSets_120 rfl (lv_at hl 4 rfl) ?_
                  refine lv_iload hx hb dX4_goThroughSets_121 (lv_at hl 0 rfl) ?_
                  obtain ⟨k132, hk132, hf⟩ := jn_some hf
                  have w132 : ∀ (t0_132 : Int32), k132 t0_132 = some r → ∀ (H : Heap) (locs : List Loc) (ls : Array Slot), va_P D vwCl (wM cI cZ md mth msz mrn mmy mdf mgu mhs_2 mlv mba mgi mfi mle mst msu mtr mdi mfa mca_2) H → va_D A (wM cI cZ md mth msz mrn mmy mdf mgu mhs_2 mlv mba mgi mfi mle mst msu mtr mdi mfa mca_2) → va_S A s.heap H locs → lv_has ls 6 [(0, .ref (md 0)), (1, .int v1_2), (2, .int v2_65), (4, .int v4_68)] → W p l e rm_X4_goThroughSets s m args below meth c H locs 0 0 Q (F0 m 132 ls [.int t0_132, .int v3_68]) := by
                    intro t0_132 hf H locs ls hP hD hS hl
                    rw [hk132] at hf
                    try dsimp only at hf
                    refine lv_ior hx hb dX4_goThroughSets_132 ?_
                    refine lv_istore_n (lv' := [(3, .int (v3_68 ||| t0_132)), (0, .ref (md 0)), (1, .int v1_2), (2, .int v2_65), (4, .int v4_68)]) hx hb dX4_goThroughSets_133 rfl hl (by decide) rfl (fun ls hl => ?_)
                    refine lv_iinc (v := (v4_68 + 2)) (lv' := [(4, .int (v4_68 + 2)), (3, .int (v3_68 ||| t0_132)), (0, .ref (md 0)), (1, .int v1_2), (2, .int v2_65)]) hx hb dX4_goThroughSets_134 hl (k := 4) rfl rfl (by decide) rfl (fun ls hl => ?_)
                    refine lv_goto (tgt := 68) hx hb dX4_goThroughSets_137 (by decide) ?_
                    exact ih68 (v3_68 ||| t0_132) (v4_68 + 2) hf _ _ _ hP hD hS (lv_sub hl [2, 3, 4, 1, 0] rfl)
                  refine lv_if_eq (tgt := 131) hx hb dX4_goThroughSets_123 (by decide) (fun c_123 => ?_) (fun c_123 => ?_)
                  · have hf := ite_t c_123 hf
                    refine lv_iconst (v := 0) hx hb dX4_goThroughSets_131 (by decide) ?_
                    exact w132 0 hf _ _ _ hP hD hS (lv_sub hl [1, 2, 3, 5] rfl)
                  · have hf := ite_f c_123 hf
                    refine lv_iload hx hb dX4_goThroughSets_126 (lv_at hl 5 rfl) ?_
                    refine lv_goto (tgt := 132) hx hb dX4_goThroughSets_128 (by decide) ?_
                    exact w132 v4_68 hf _ _ _ hP hD hS (lv_sub hl [1, 2, 3, 5] rfl)
                obtain ⟨k117, hk117, hf⟩ := jn_some hf
                have w117 : ∀ (_ : Unit), k117 () = some r → ∀ (H : Heap) (locs : List Loc) (ls : Array Slot), va_P D vwCl (wM cI cZ md mth msz mrn mmy mdf mgu mhs_2 mlv mba mgi mfi mle mst msu mtr mdi mfa mca_2) H → va_D A (wM cI cZ md mth msz mrn mmy mdf mgu mhs_2 mlv mba mgi mfi mle mst msu mtr mdi mfa mca_2) → va_S A s.heap H locs → lv_has ls 6 [(0, .ref (md 0)), (1, .int v1_2), (2, .int v2_65), (3, .int v3_68), (4, .int v4_68)] → W p l e rm_X4_goThroughSets s m args below meth c H locs 0 0 Q (F0 m 117 ls []) := by
                  intro _ hf H locs ls hP hD hS hl
                  rw [hk117] at hf
                  try dsimp only at hf
                  refine lv_iconst (v := 0) hx hb dX4_goThroughSets_117 (by decide) ?_
                  exact w118 0 hf _ _ _ hP hD hS (lv_sub hl [0, 1, 2, 3, 4] rfl)
                refine lv_icmp_ne (tgt := 117) hx hb dX4_goThroughSets_87 (by decide) (fun c_87 => ?_) (fun c_87 => ?_)
                · have hf := ite_f c_87 hf
                  exact w117 () hf _ _ _ hP hD hS (lv_sub hl [0, 1, 2, 3, 4] rfl)
                · have hf := ite_t c_87 hf
                  refine lv_iload hx hb dX4_goThroughSets_90 (lv_at hl 4 rfl) ?_
                  obtain ⟨x92, hy92, hf⟩ := Option.bind_eq_some_iff.mp hf
                  refine clS_i (As := [.int v4_68]) (rest := []) (wM cI cZ md mth msz mrn mmy mdf mgu mhs_2 mlv mba mgi mfi mle mst msu mtr mdi mfa mca_2) ⟨hx, hb, hml, hown, hts⟩ (K_X4_sumOfSet l D cI cZ H.size N v4_68 _ hy92) (va_cwS 1 hts gX4_goThroughSets_X4_sumOfSet rfl rfl rfl (by decide +kernel) ⟨Nat.le_of_ble_eq_true rfl, Nat.le_of_ble_eq_true rfl⟩) hK hP hD hS hA hl.1 [] (by decide) rfl rfl rfl rfl rfl (Nat.le_of_ble_eq_true rfl) dX4_goThroughSets_92 ⟨Nat.le_of_ble_eq_true rfl, Nat.le_of_ble_eq_true rfl⟩ (fun H locs hP hD hS => ?_)
                  refine lv_aload_n hx hb dX4_goThroughSets_95 rfl (lv_at hl 0 rfl) ?_
                  refine va_get (D := D) (ci := 4) (v := .ref (md 6)) (C := RX4) (T := TX4) (N := 18) hx hb hts hinX4 hown hK.1 hP 0 rfl rfl 8 (by decide) (hts (.fieldLink RX4 30 "GridpuzzleModel" "sums" "[I") (by decide +kernel)) (fun _ h9 => h9) rfl dX4_goThroughSets_96 ?_
                  refine lv_iload_n hx hb dX4_goThroughSets_99 rfl (lv_at hl 1 rfl) ?_
                  obtain ⟨hz100, hf⟩ := gd_some hf
                  refine va_iald hx hb hK.1 hP 6 0 rfl rfl hz100 dX4_goThroughSets_100 ?_
                  refine lv_icmp_ne (tgt := 117) hx hb dX4_goThroughSets_101 (by decide) (fun c_101 => ?_) (fun c_101 => ?_)
                  · have hf := ite_f c_101 hf
                    exact w117 () hf _ _ _ hP hD hS (lv_sub hl [0, 1, 2, 3, 4] rfl)
                  · have hf := ite_t c_101 hf
                    refine lv_iload_n hx hb dX4_goThroughSets_104 rfl (lv_at hl 2 rfl) ?_
                    refine lv_iload hx hb dX4_goThroughSets_105 (lv_at hl 4 rfl) ?_
                    refine lv_iconst (v := (-1)) hx hb dX4_goThroughSets_107 (by decide) ?_
                    refine lv_ixor hx hb dX4_goThroughSets_108 ?_
                    refine lv_iand hx hb dX4_goThroughSets_109 ?_
                    refine lv_if_ne (tgt := 117) hx hb dX4_goThroughSets_110 (by decide) (fun c_110 => ?_) (fun c_110 => ?_)
                    · have hf := ite_f c_110 hf
                      exact w117 () hf _ _ _ hP hD hS (lv_sub hl [0, 1, 2, 3, 4] rfl)
                    · have hf := ite_t c_110 hf
                      refine lv_iconst (v := 1) hx hb dX4_goThroughSets_113 (by decide) ?_
                      refine lv_goto (tgt := 118) hx hb dX4_goThroughSets_114 (by decide) ?_
                      exact w118 1 hf _ _ _ hP hD hS (lv_sub hl [0, 1, 2, 3, 4] rfl)
          exact l68 N 0 0 hf _ _ _ hP hD hS (lv_sub hl [1, 2, 3, 4, 0] rfl)
        have l17 : ∀ (nn : Nat) (v2_17 : Int32) (v4_17 : Int32), f_X4_goThroughSets_L17 v1_2 mfi mle mst mca_2 k65 nn v2_17 v4_17 = some r → ∀ (H : Heap) (locs : List Loc) (ls : Array Slot), va_P D vwCl (wM cI cZ md mth msz mrn mmy mdf mgu mhs_2 mlv mba mgi mfi mle mst msu mtr mdi mfa mca_2) H → va_D A (wM cI cZ md mth msz mrn mmy mdf mgu mhs_2 mlv mba mgi mfi mle mst msu mtr mdi mfa mca_2) → va_S A s.heap H locs → lv_has ls 6 [(0, .ref (md 0)), (1, .int v1_2), (2, .int v2_17), (3, .int 0), (4, .int v4_17)] → W p l e rm_X4_goThroughSets s m args below meth c H locs 0 0 Q (F0 m 17 ls []) := by
          intro nn
          induction nn with
          | zero => intro _ _ hf; exact nomatch (show (none : Option _) = some r from hf)
          | succ n17 ih17 =>
            intro v2_17 v4_17 hf H locs ls hP hD hS hl
            rw [f_X4_goThroughSets_L17.eq_2] at hf
            refine lv_iload hx hb dX4_goThroughSets_17 (lv_at hl 4 rfl) ?_
            refine lv_aload_n hx hb dX4_goThroughSets_19 rfl (lv_at hl 0 rfl) ?_
            refine va_get (D := D) (ci := 4) (v := .ref (md 4)) (C := RX4) (T := TX4) (N := 18) hx hb hts hinX4 hown hK.1 hP 0 rfl rfl 6 (by decide) (hts (.fieldLink RX4 24 "GridpuzzleModel" "lengths" "[I") (by decide +kernel)) (fun _ h9 => h9) rfl dX4_goThroughSets_20 ?_
            refine lv_iload_n hx hb dX4_goThroughSets_23 rfl (lv_at hl 1 rfl) ?_
            obtain ⟨hz24, hf⟩ := gd_some hf
            refine va_iald hx hb hK.1 hP 4 0 rfl rfl hz24 dX4_goThroughSets_24 ?_
            refine lv_icmp_ge (tgt := 65) hx hb dX4_goThroughSets_25 (by decide) (fun c_25 => ?_) (fun c_25 => ?_)
            · have hf := ite_t c_25 hf
              exact w65 v2_17 hf _ _ _ hP hD hS (lv_sub hl [0, 1, 2, 3] rfl)
            · have hf := ite_f c_25 hf
              refine lv_aload_n hx hb dX4_goThroughSets_28 rfl (lv_at hl 0 rfl) ?_
              refine va_get (D := D) (ci := 4) (v := .ref (md 10)) (C := RX4) (T := TX4) (N := 18) hx hb hts hinX4 hown hK.1 hP 0 rfl rfl 15 (by decide) (hts (.fieldLink RX4 42 "GridpuzzleModel" "candidates" "[I") (by decide +kernel)) (fun _ h9 => h9) rfl dX4_goThroughSets_29 ?_
              refine lv_aload_n hx hb dX4_goThroughSets_32 rfl (lv_at hl 0 rfl) ?_
              refine lv_iload_n hx hb dX4_goThroughSets_33 rfl (lv_at hl 1 rfl) ?_
              refine lv_iload hx hb dX4_goThroughSets_34 (lv_at hl 4 rfl) ?_
              obtain ⟨x36, hy36, hf⟩ := Option.bind_eq_some_iff.mp hf
              refine clV_i (As := [.int v1_2, .int v4_17]) (rest := [.ref (md 10)]) (wM cI cZ md mth msz mrn mmy mdf mgu mhs_2 mlv mba mgi mfi mle mst msu mtr mdi mfa mca_2) ⟨hx, hb, hml, hown, hts⟩ (K_X4_cellOf l D cI cZ md H.size mth msz mrn mmy mdf mgu mhs_2 mlv mba mgi mfi mle mst msu mtr mdi mfa mca_2 v1_2 v4_17 _ hy36) (cwV 2 hts gX4_goThroughSets_X4_cellOf rfl rfl rfl (by decide +kernel) ⟨Nat.le_of_ble_eq_true rfl, Nat.le_of_ble_eq_true rfl⟩) hK hP hD hS hA hl.1 [0, 1, 2, 3, 4, 5, 6, 7, 8, 9, 10] (by decide) rfl rfl rfl 4 0 rfl rfl rfl rfl rfl (Nat.le_of_ble_eq_true rfl) dX4_goThroughSets_36 ⟨Nat.le_of_ble_eq_true rfl, Nat.le_of_ble_eq_true rfl⟩ (fun H locs hP hD hS => ?_)
              obtain ⟨hz39, hf⟩ := gd_some hf
              refine va_iald hx hb hK.1 hP 10 0 rfl rfl hz39 dX4_goThroughSets_39 ?_
              refine lv_istore (lv' := [(5, .int (mca_2 ((x36 : Int32)).toNatClampNeg)), (0, .ref (md 0)), (1, .int v1_2), (2, .int v2_17), (3, .int 0), (4, .int v4_17)]) hx hb dX4_goThroughSets_40 hl (by decide) rfl (fun ls hl => ?_)
              refine lv_iload_n hx hb dX4_goThroughSets_42 rfl (lv_at hl 3 rfl) ?_
              refine lv_iload hx hb dX4_goThroughSets_43 (lv_at hl 0 rfl) ?_
              refine clS_i (As := [.int (mca_2 ((x36 : Int32)).toNatClampNeg)]) (rest := [.int v2_17]) (wM cI cZ md mth msz mrn mmy mdf mgu mhs_2 mlv mba mgi mfi mle mst msu mtr mdi mfa mca_2) ⟨hx, hb, hml, hown, hts⟩ (K_X4_isSingle l D cI cZ H.size  (mca_2 ((x36 : Int32)).toNatClampNeg) _ rfl) (va_cwS 1 hts gX4_goThroughSets_X4_isSingle rfl rfl rfl (by decide +kernel) ⟨Nat.le_of_ble_eq_true rfl, Nat.le_of_ble_eq_true rfl⟩) hK hP hD hS hA hl.1 [] (by decide) rfl rfl rfl rfl rfl (Nat.le_of_ble_eq_true rfl) dX4_goThroughSets_45 ⟨Nat.le_of_ble_eq_true rfl, Nat.le_of_ble_eq_true rfl⟩ (fun H locs hP hD hS => ?_)
              obtain ⟨k57, hk57, hf⟩ := jn_some hf
              have w57 : ∀ (t0_57 : Int32), k57 t0_57 = some r → ∀ (H : Heap) (locs : List Loc) (ls : Array Slot), va_P D vwCl (wM cI cZ md mth msz mrn mmy mdf mgu mhs_2 mlv mba mgi mfi mle mst msu mtr mdi mfa mca_2) H → va_D A (wM cI cZ md mth msz mrn mmy mdf mgu mhs_2 mlv mba mgi mfi mle mst msu mtr mdi mfa mca_2) → va_S A s.heap H locs → lv_has ls 6 [(0, .ref (md 0)), (1, .int v1_2), (3, .int 0), (4, .int v4_17)] → W p l e rm_X4_goThroughSets s m args below meth c H locs 0 0 Q (F0 m 57 ls [.int t0_57, .int v2_17]) := by
                intro t0_57 hf H locs ls hP hD hS hl
                rw [hk57] at hf
                try dsimp only at hf
                refine lv_ior hx hb dX4_goThroughSets_57 ?_
                refine lv_istore_n (lv' := [(2, .int (v2_17 ||| t0_57)), (0, .ref (md 0)), (1, .int v1_2), (3, .int 0), (4, .int v4_17)]) hx hb dX4_goThroughSets_58 rfl hl (by decide) rfl (fun ls hl => ?_)
                refine lv_iinc (v := (v4_17 + 1)) (lv' := [(4, .int (v4_17 + 1)), (2, .int (v2_17 ||| t0_57)), (0, .ref (md 0)), (1, .int v1_2), (3, .int 0)]) hx hb dX4_goThroughSets_59 hl (k := 4) rfl rfl (by decide) rfl (fun ls hl => ?_)
                refine lv_goto (tgt := 17) hx hb dX4_goThroughSets_62 (by decide) ?_
                exact ih17 (v2_17 ||| t0_57) (v4_17 + 1) hf _ _ _ hP hD hS (lv_sub hl [2, 3, 1, 4, 0] rfl)
              refine lv_if_eq (tgt := 56) hx hb dX4_goThroughSets_48 (by decide) (fun c_48 => ?_) (fun c_48 => ?_)
              · have hf := ite_t c_48 hf
                refine lv_iconst (v := 0) hx hb dX4_goThroughSets_56 (by decide) ?_
                exact w57 0 hf _ _ _ hP hD hS (lv_sub hl [1, 2, 4, 5] rfl)
              · have hf := ite_f c_48 hf
                refine lv_iload hx hb dX4_goThroughSets_51 (lv_at hl 0 rfl) ?_
                refine lv_goto (tgt := 57) hx hb dX4_goThroughSets_53 (by decide) ?_
                exact w57 (mca_2 ((x36 : Int32)).toNatClampNeg) hf _ _ _ hP hD hS (lv_sub hl [1, 2, 4, 5] rfl)
        exact l17 N 0 0 hf _ _ _ hP hD hS (lv_sub hl [3, 4, 2, 1, 0] rfl)
  exact l2 N 0 mhs mca hf _ _ _ hP hD hS (lv_sub hl [1, 0] rfl)
def rm_X4_canBe : Room := { frames := 1, cells := 0, slots := 0, locals := 22 }
set_option maxRecDepth 100000 in
set_option maxHeartbeats 8000000 in
theorem K_X4_canBe (l : Launch) (D : va_G) (cI cZ : ClassId) (md : Nat → Nat) (sz : Nat) (N : Nat) (mth msz mrn mmy mdf mgu mhs mlv : Int32) (mba mgi mfi mle mst msu mtr mdi mfa mca : Nat → Int32) (p1 : Int32) (p2 : Int32) (p3 : Int32) (r : (Int32)) (hf : f_X4_canBe N mfi mle mst msu mca p1 p2 p3 = some r) : Met l yX4_canBe wsX4_canBe rm_X4_canBe (PC D cI cZ sz [.ref (md 0), .int p1, .int p2, .int p3] (wM cI cZ md mth msz mrn mmy mdf mgu mhs mlv mba mgi mfi mle mst msu mtr mdi mfa mca)) (QI D cI cZ sz (wM cI cZ md mth msz mrn mmy mdf mgu mhs mlv mba mgi mfi mle mst msu mtr mdi mfa mca) r (wM cI cZ md mth msz mrn mmy mdf mgu mhs mlv mba mgi mfi mle mst msu mtr mdi mfa mca)) 0 0 (va_A (wM cI cZ md mth msz mrn mmy mdf mgu mhs mlv mba mgi mfi mle mst msu mtr mdi mfa mca) sz) := by
  refine mk_z (cc := cX4_canBe) (maxL := 11) (lv0 := [(0, .ref (md 0)), (1, .int p1), (2, .int p2), (3, .int p3)]) (by decide) rfl (Nat.le_of_ble_eq_true rfl) rfl ?_
  intro p e s m args below meth c ls A Q H hx hb hml hown hts hK hP hD hA hS hl hR
  have hinX4 : ∀ w ∈ wsX40, w ∈ wsX4_canBe := by decide +kernel
  rw [f_X4_canBe] at hf
  refine lv_iconst (v := 1) hx hb dX4_canBe_0 (by decide) ?_
  refine lv_istore (lv' := [(4, .int 1), (0, .ref (md 0)), (1, .int p1), (2, .int p2), (3, .int p3)]) hx hb dX4_canBe_1 hl (by decide) rfl (fun ls hl => ?_)
  refine lv_iconst (v := 0) hx hb dX4_canBe_3 (by decide) ?_
  refine lv_istore (lv' := [(5, .int 0), (4, .int 1), (0, .ref (md 0)), (1, .int p1), (2, .int p2), (3, .int p3)]) hx hb dX4_canBe_4 hl (by decide) rfl (fun ls hl => ?_)
  obtain ⟨k30, hk30, hf⟩ := jn_some hf
  have w30 : ∀ (v4_30 : Int32), k30 v4_30 = some r → ∀ (H : Heap) (locs : List Loc) (ls : Array Slot), va_P D vwCl (wM cI cZ md mth msz mrn mmy mdf mgu mhs mlv mba mgi mfi mle mst msu mtr mdi mfa mca) H → va_D A (wM cI cZ md mth msz mrn mmy mdf mgu mhs mlv mba mgi mfi mle mst msu mtr mdi mfa mca) → va_S A s.heap H locs → lv_has ls 11 [(0, .ref (md 0)), (1, .int p1), (2, .int p2), (3, .int p3), (4, .int v4_30)] → W p l e rm_X4_canBe s m args below meth c H locs 0 0 Q (F0 m 30 ls []) := by
    intro v4_30 hf H locs ls hP hD hS hl
    rw [hk30] at hf
    try dsimp only at hf
    refine lv_iconst (v := 0) hx hb dX4_canBe_30 (by decide) ?_
    refine lv_istore (lv' := [(5, .int 0), (0, .ref (md 0)), (1, .int p1), (2, .int p2), (3, .int p3), (4, .int v4_30)]) hx hb dX4_canBe_31 hl (by decide) rfl (fun ls hl => ?_)
    have l33 : ∀ (nn : Nat) (v5_33 : Int32), f_X4_canBe_L33 N p1 p2 p3 v4_30 mfi mle mst msu mca nn v5_33 = some r → ∀ (H : Heap) (locs : List Loc) (ls : Array Slot), va_P D vwCl (wM cI cZ md mth msz mrn mmy mdf mgu mhs mlv mba mgi mfi mle mst msu mtr mdi mfa mca) H → va_D A (wM cI cZ md mth msz mrn mmy mdf mgu mhs mlv mba mgi mfi mle mst msu mtr mdi mfa mca) → va_S A s.heap H locs → lv_has ls 11 [(0, .ref (md 0)), (1, .int p1), (2, .int p2), (3, .int p3), (4, .int v4_30), (5, .int v5_33)] → W p l e rm_X4_canBe s m args below meth c H locs 0 0 Q (F0 m 33 ls []) := by
      intro nn
      induction nn with
      | zero => intro _ hf; exact nomatch (show (none : Option _) = some r from hf)
      | succ n33 ih33 =>
        intro v5_33 hf H locs ls hP hD hS hl
        rw [f_X4_canBe_L33.eq_2] at hf
        refine lv_iload hx hb dX4_canBe_33 (lv_at hl 5 rfl) ?_
        refine lv_iload hx hb dX4_canBe_35 (lv_at hl 4 rfl) ?_
        refine lv_icmp_ge (tgt := 177) hx hb dX4_canBe_37 (by decide) (fun c_37 => ?_) (fun c_37 => ?_)
        · have hf := ite_t c_37 hf
          refine lv_iconst (v := 0) hx hb dX4_canBe_177 (by decide) ?_
          cases hf
          exact hR _ _ _ _ _ _ (by decide) rfl rfl hP hD hS dX4_canBe_178
        · have hf := ite_f c_37 hf
          refine lv_iload hx hb dX4_canBe_40 (lv_at hl 5 rfl) ?_
          refine lv_istore (lv' := [(6, .int v5_33), (0, .ref (md 0)), (1, .int p1), (2, .int p2), (3, .int p3), (4, .int v4_30), (5, .int v5_33)]) hx hb dX4_canBe_42 hl (by decide) rfl (fun ls hl => ?_)
          refine lv_iconst (v := 0) hx hb dX4_canBe_44 (by decide) ?_
          refine lv_istore (lv' := [(7, .int 0), (6, .int v5_33), (0, .ref (md 0)), (1, .int p1), (2, .int p2), (3, .int p3), (4, .int v4_30), (5, .int v5_33)]) hx hb dX4_canBe_45 hl (by decide) rfl (fun ls hl => ?_)
          refine lv_iconst (v := 1) hx hb dX4_canBe_47 (by decide) ?_
          refine lv_istore (lv' := [(8, .int 1), (7, .int 0), (6, .int v5_33), (0, .ref (md 0)), (1, .int p1), (2, .int p2), (3, .int p3), (4, .int v4_30), (5, .int v5_33)]) hx hb dX4_canBe_48 hl (by decide) rfl (fun ls hl => ?_)
          refine lv_iconst (v := 0) hx hb dX4_canBe_50 (by decide) ?_
          refine lv_istore (lv' := [(9, .int 0), (8, .int 1), (7, .int 0), (6, .int v5_33), (0, .ref (md 0)), (1, .int p1), (2, .int p2), (3, .int p3), (4, .int v4_30), (5, .int v5_33)]) hx hb dX4_canBe_51 hl (by decide) rfl (fun ls hl => ?_)
          obtain ⟨k150, hk150, hf⟩ := jn_some hf
          have w150 : ∀ (v7_150 : Int32) (v8_150 : Int32), k150 v7_150 v8_150 = some r → ∀ (H : Heap) (locs : List Loc) (ls : Array Slot), va_P D vwCl (wM cI cZ md mth msz mrn mmy mdf mgu mhs mlv mba mgi mfi mle mst msu mtr mdi mfa mca) H → va_D A (wM cI cZ md mth msz mrn mmy mdf mgu mhs mlv mba mgi mfi mle mst msu mtr mdi mfa mca) → va_S A s.heap H locs → lv_has ls 11 [(0, .ref (md 0)), (1, .int p1), (2, .int p2), (3, .int p3), (4, .int v4_30), (5, .int v5_33), (7, .int v7_150), (8, .int v8_150)] → W p l e rm_X4_canBe s m args below meth c H locs 0 0 Q (F0 m 150 ls []) := by
            intro v7_150 v8_150 hf H locs ls hP hD hS hl
            rw [hk150] at hf
            try dsimp only at hf
            refine lv_iload hx hb dX4_canBe_150 (lv_at hl 7 rfl) ?_
            obtain ⟨k171, hk171, hf⟩ := jn_some hf
            have w171 : ∀ (_ : Unit), k171 () = some r → ∀ (H : Heap) (locs : List Loc) (ls : Array Slot), va_P D vwCl (wM cI cZ md mth msz mrn mmy mdf mgu mhs mlv mba mgi mfi mle mst msu mtr mdi mfa mca) H → va_D A (wM cI cZ md mth msz mrn mmy mdf mgu mhs mlv mba mgi mfi mle mst msu mtr mdi mfa mca) → va_S A s.heap H locs → lv_has ls 11 [(0, .ref (md 0)), (1, .int p1), (2, .int p2), (3, .int p3), (4, .int v4_30), (5, .int v5_33)] → W p l e rm_X4_canBe s m args below meth c H locs 0 0 Q (F0 m 171 ls []) := by
              intro _ hf H locs ls hP hD hS hl
              rw [hk171] at hf
              try dsimp only at hf
              refine lv_iinc (v := (v5_33 + 1)) (lv' := [(5, .int (v5_33 + 1)), (0, .ref (md 0)), (1, .int p1), (2, .int p2), (3, .int p3), (4, .int v4_30)]) hx hb dX4_canBe_171 hl (k := 5) rfl rfl (by decide) rfl (fun ls hl => ?_)
              refine lv_goto (tgt := 33) hx hb dX4_canBe_174 (by decide) ?_
              exact ih33 (v5_33 + 1) hf _ _ _ hP hD hS (lv_sub hl [1, 2, 3, 4, 5, 0] rfl)
            refine lv_if_eq (tgt := 171) hx hb dX4_canBe_152 (by decide) (fun c_152 => ?_) (fun c_152 => ?_)
            · have hf := ite_t c_152 hf
              exact w171 () hf _ _ _ hP hD hS (lv_sub hl [0, 1, 2, 3, 4, 5] rfl)
            · have hf := ite_f c_152 hf
              refine lv_iload hx hb dX4_canBe_155 (lv_at hl 6 rfl) ?_
              obtain ⟨x157, hy157, hf⟩ := Option.bind_eq_some_iff.mp hf
              refine clS_i (As := [.int v7_150]) (rest := []) (wM cI cZ md mth msz mrn mmy mdf mgu mhs mlv mba mgi mfi mle mst msu mtr mdi mfa mca) ⟨hx, hb, hml, hown, hts⟩ (K_X4_sumOfSet l D cI cZ H.size N v7_150 _ hy157) (va_cwS 1 hts gX4_canBe_X4_sumOfSet rfl rfl rfl (by decide +kernel) ⟨Nat.le_of_ble_eq_true rfl, Nat.le_of_ble_eq_true rfl⟩) hK hP hD hS hA hl.1 [] (by decide) rfl rfl rfl rfl rfl (Nat.le_of_ble_eq_true rfl) dX4_canBe_157 ⟨Nat.le_of_ble_eq_true rfl, Nat.le_of_ble_eq_true rfl⟩ (fun H locs hP hD hS => ?_)
              refine lv_aload_n hx hb dX4_canBe_160 rfl (lv_at hl 0 rfl) ?_
              refine va_get (D := D) (ci := 4) (v := .ref (md 6)) (C := RX4) (T := TX4) (N := 18) hx hb hts hinX4 hown hK.1 hP 0 rfl rfl 8 (by decide) (hts (.fieldLink RX4 30 "GridpuzzleModel" "sums" "[I") (by decide +kernel)) (fun _ h9 => h9) rfl dX4_canBe_161 ?_
              refine lv_iload_n hx hb dX4_canBe_164 rfl (lv_at hl 1 rfl) ?_
              obtain ⟨hz165, hf⟩ := gd_some hf
              refine va_iald hx hb hK.1 hP 6 0 rfl rfl hz165 dX4_canBe_165 ?_
              refine lv_icmp_ne (tgt := 171) hx hb dX4_canBe_166 (by decide) (fun c_166 => ?_) (fun c_166 => ?_)
              · have hf := ite_f c_166 hf
                exact w171 () hf _ _ _ hP hD hS (lv_sub hl [0, 1, 2, 3, 4, 5] rfl)
              · have hf := ite_t c_166 hf
                refine lv_iconst (v := 1) hx hb dX4_canBe_169 (by decide) ?_
                cases hf
                exact hR _ _ _ _ _ _ (by decide) rfl rfl hP hD hS dX4_canBe_170
          have l53 : ∀ (nn : Nat) (v6_53 : Int32) (v7_53 : Int32) (v8_53 : Int32) (v9_53 : Int32), f_X4_canBe_L53 p1 p2 p3 mfi mle mst mca k150 nn v6_53 v7_53 v8_53 v9_53 = some r → ∀ (H : Heap) (locs : List Loc) (ls : Array Slot), va_P D vwCl (wM cI cZ md mth msz mrn mmy mdf mgu mhs mlv mba mgi mfi mle mst msu mtr mdi mfa mca) H → va_D A (wM cI cZ md mth msz mrn mmy mdf mgu mhs mlv mba mgi mfi mle mst msu mtr mdi mfa mca) → va_S A s.heap H locs → lv_has ls 11 [(0, .ref (md 0)), (1, .int p1), (2, .int p2), (3, .int p3), (4, .int v4_30), (5, .int v5_33), (6, .int v6_53), (7, .int v7_53), (8, .int v8_53), (9, .int v9_53)] → W p l e rm_X4_canBe s m args below meth c H locs 0 0 Q (F0 m 53 ls []) := by
            intro nn
            induction nn with
            | zero => intro _ _ _ _ hf; exact nomatch (show (none : Option _) = some r from hf)
            | succ n53 ih53 =>
              intro v6_53 v7_53 v8_53 v9_53 hf H locs ls hP hD hS hl
              rw [f_X4_canBe_L53.eq_2] at hf
              refine lv_iload hx hb dX4_canBe_53 (lv_at hl 9 rfl) ?_
              refine lv_aload_n hx hb dX4_canBe_55 rfl (lv_at hl 0 rfl) ?_
              refine va_get (D := D) (ci := 4) (v := .ref (md 4)) (C := RX4) (T := TX4) (N := 18) hx hb hts hinX4 hown hK.1 hP 0 rfl rfl 6 (by decide) (hts (.fieldLink RX4 24 "GridpuzzleModel" "lengths" "[I") (by decide +kernel)) (fun _ h9 => h9) rfl dX4_canBe_56 ?_
              refine lv_iload_n hx hb dX4_canBe_59 rfl (lv_at hl 1 rfl) ?_
              obtain ⟨hz60, hf⟩ := gd_some hf
              refine va_iald hx hb hK.1 hP 4 0 rfl rfl hz60 dX4_canBe_60 ?_
              refine lv_icmp_ge (tgt := 150) hx hb dX4_canBe_61 (by decide) (fun c_61 => ?_) (fun c_61 => ?_)
              · have hf := ite_t c_61 hf
                exact w150 v7_53 v8_53 hf _ _ _ hP hD hS (lv_sub hl [0, 1, 2, 3, 4, 5, 7, 8] rfl)
              · have hf := ite_f c_61 hf
                refine lv_iload hx hb dX4_canBe_64 (lv_at hl 8 rfl) ?_
                refine lv_if_eq (tgt := 150) hx hb dX4_canBe_66 (by decide) (fun c_66 => ?_) (fun c_66 => ?_)
                · have hf := ite_t c_66 hf
                  exact w150 v7_53 v8_53 hf _ _ _ hP hD hS (lv_sub hl [0, 1, 2, 3, 4, 5, 7, 8] rfl)
                · have hf := ite_f c_66 hf
                  refine lv_iconst (v := 1) hx hb dX4_canBe_69 (by decide) ?_
                  refine lv_iload hx hb dX4_canBe_70 (lv_at hl 6 rfl) ?_
                  refine lv_bipush (v := 9) hx hb dX4_canBe_72 (by decide) ?_
                  refine lv_irem hx hb dX4_canBe_74 (by decide) ?_
                  refine lv_iadd hx hb dX4_canBe_75 ?_
                  refine lv_istore (lv' := [(10, .int (1 + (v6_53 - v6_53 / 9 * 9))), (0, .ref (md 0)), (1, .int p1), (2, .int p2), (3, .int p3), (4, .int v4_30), (5, .int v5_33), (6, .int v6_53), (7, .int v7_53), (8, .int v8_53), (9, .int v9_53)]) hx hb dX4_canBe_76 hl (by decide) rfl (fun ls hl => ?_)
                  refine lv_iload hx hb dX4_canBe_78 (lv_at hl 7 rfl) ?_
                  refine lv_bipush (v := 9) hx hb dX4_canBe_80 (by decide) ?_
                  refine lv_idiv hx hb dX4_canBe_82 (by decide) ?_
                  refine lv_istore (lv' := [(6, .int (v6_53 / 9)), (10, .int (1 + (v6_53 - v6_53 / 9 * 9))), (0, .ref (md 0)), (1, .int p1), (2, .int p2), (3, .int p3), (4, .int v4_30), (5, .int v5_33), (7, .int v7_53), (8, .int v8_53), (9, .int v9_53)]) hx hb dX4_canBe_83 hl (by decide) rfl (fun ls hl => ?_)
                  refine lv_iload hx hb dX4_canBe_85 (lv_at hl 8 rfl) ?_
                  refine lv_iload hx hb dX4_canBe_87 (lv_at hl 1 rfl) ?_
                  refine lv_ishr hx hb dX4_canBe_89 ?_
                  refine lv_iconst (v := 1) hx hb dX4_canBe_90 (by decide) ?_
                  refine lv_iand hx hb dX4_canBe_91 ?_
                  obtain ⟨k133, hk133, hf⟩ := jn_some hf
                  have w133 : ∀ (t0_133 : Int32), k133 t0_133 = some r → ∀ (H : Heap) (locs : List Loc) (ls : Array Slot), va_P D vwCl (wM cI cZ md mth msz mrn mmy mdf mgu mhs mlv mba mgi mfi mle mst msu mtr mdi mfa mca) H → va_D A (wM cI cZ md mth msz mrn mmy mdf mgu mhs mlv mba mgi mfi mle mst msu mtr mdi mfa mca) → va_S A s.heap H locs → lv_has ls 11 [(0, .ref (md 0)), (1, .int p1), (2, .int p2), (3, .int p3), (4, .int v4_30), (5, .int v5_33), (6, .int (v6_53 / 9)), (7, .int v7_53), (9, .int v9_53), (10, .int (1 + (v6_53 - v6_53 / 9 * 9)))] → W p l e rm_X4_canBe s m args below meth c H locs 0 0 Q (F0 m 133 ls [.int t0_133]) := by
                    intro t0_133 hf H locs ls hP hD hS hl
                    rw [hk133] at hf
                    try dsimp only at hf
                    refine lv_istore (lv' := [(8, .int t0_133), (0, .ref (md 0)), (1, .int p1), (2, .int p2), (3, .int p3), (4, .int v4_30), (5, .int v5_33), (6, .int (v6_53 / 9)), (7, .int v7_53), (9, .int v9_53), (10, .int (1 + (v6_53 - v6_53 / 9 * 9)))]) hx hb dX4_canBe_133 hl (by decide) rfl (fun ls hl => ?_)
                    refine lv_iload hx hb dX4_canBe_135 (lv_at hl 8 rfl) ?_
                    refine lv_iconst (v := 1) hx hb dX4_canBe_137 (by decide) ?_
                    refine lv_iload hx hb dX4_canBe_138 (lv_at hl 10 rfl) ?_
                    refine lv_ishl hx hb dX4_canBe_140 ?_
                    refine lv_ior hx hb dX4_canBe_141 ?_
                    refine lv_istore (lv' := [(7, .int (v7_53 ||| (1 <<< ((1 + (v6_53 - v6_53 / 9 * 9)) &&& 31)))), (8, .int t0_133), (0, .ref (md 0)), (1, .int p1), (2, .int p2), (3, .int p3), (4, .int v4_30), (5, .int v5_33), (6, .int (v6_53 / 9)), (9, .int v9_53), (10, .int (1 + (v6_53 - v6_53 / 9 * 9)))]) hx hb dX4_canBe_142 hl (by decide) rfl (fun ls hl => ?_)
                    refine lv_iinc (v := (v9_53 + 1)) (lv' := [(9, .int (v9_53 + 1)), (7, .int (v7_53 ||| (1 <<< ((1 + (v6_53 - v6_53 / 9 * 9)) &&& 31)))), (8, .int t0_133), (0, .ref (md 0)), (1, .int p1), (2, .int p2), (3, .int p3), (4, .int v4_30), (5, .int v5_33), (6, .int (v6_53 / 9)), (10, .int (1 + (v6_53 - v6_53 / 9 * 9)))]) hx hb dX4_canBe_144 hl (k := 9) rfl rfl (by decide) rfl (fun ls hl => ?_)
                    refine lv_goto (tgt := 53) hx hb dX4_canBe_147 (by decide) ?_
                    exact ih53 (v6_53 / 9) (v7_53 ||| (1 <<< ((1 + (v6_53 - v6_53 / 9 * 9)) &&& 31))) t0_133 (v9_53 + 1) hf _ _ _ hP hD hS (lv_sub hl [3, 4, 5, 6, 7, 8, 9, 1, 2, 0] rfl)
                  obtain ⟨k132, hk132, hf⟩ := jn_some hf
                  have w132 : ∀ (_ : Unit), k132 () = some r → ∀ (H : Heap) (locs : List Loc) (ls : Array Slot), va_P D vwCl (wM cI cZ md mth msz mrn mmy mdf mgu mhs mlv mba mgi mfi mle mst msu mtr mdi mfa mca) H → va_D A (wM cI cZ md mth msz mrn mmy mdf mgu mhs mlv mba mgi mfi mle mst msu mtr mdi mfa mca) → va_S A s.heap H locs → lv_has ls 11 [(0, .ref (md 0)), (1, .int p1), (2, .int p2), (3, .int p3), (4, .int v4_30), (5, .int v5_33), (6, .int (v6_53 / 9)), (7, .int v7_53), (9, .int v9_53), (10, .int (1 + (v6_53 - v6_53 / 9 * 9)))] → W p l e rm_X4_canBe s m args below meth c H locs 0 0 Q (F0 m 132 ls []) := by
                    intro _ hf H locs ls hP hD hS hl
                    rw [hk132] at hf
                    try dsimp only at hf
                    refine lv_iconst (v := 0) hx hb dX4_canBe_132 (by decide) ?_
                    exact w133 0 hf _ _ _ hP hD hS (lv_sub hl [0, 1, 2, 3, 4, 5, 6, 7, 8, 9] rfl)
                  refine lv_if_ne (tgt := 132) hx hb dX4_canBe_92 (by decide) (fun c_92 => ?_) (fun c_92 => ?_)
                  · have hf := ite_f c_92 hf
                    exact w132 () hf _ _ _ hP hD hS (lv_sub hl [2, 3, 4, 5, 6, 7, 0, 8, 10, 1] rfl)
                  · have hf := ite_t c_92 hf
                    refine lv_aload_n hx hb dX4_canBe_95 rfl (lv_at hl 2 rfl) ?_
                    refine va_get (D := D) (ci := 4) (v := .ref (md 10)) (C := RX4) (T := TX4) (N := 18) hx hb hts hinX4 hown hK.1 hP 0 rfl rfl 15 (by decide) (hts (.fieldLink RX4 42 "GridpuzzleModel" "candidates" "[I") (by decide +kernel)) (fun _ h9 => h9) rfl dX4_canBe_96 ?_
                    refine lv_aload_n hx hb dX4_canBe_99 rfl (lv_at hl 2 rfl) ?_
                    refine lv_iload_n hx hb dX4_canBe_100 rfl (lv_at hl 3 rfl) ?_
                    refine lv_iload hx hb dX4_canBe_101 (lv_at hl 10 rfl) ?_
                    obtain ⟨x103, hy103, hf⟩ := Option.bind_eq_some_iff.mp hf
                    refine clV_i (As := [.int p1, .int v9_53]) (rest := [.ref (md 10)]) (wM cI cZ md mth msz mrn mmy mdf mgu mhs mlv mba mgi mfi mle mst msu mtr mdi mfa mca) ⟨hx, hb, hml, hown, hts⟩ (K_X4_cellOf l D cI cZ md H.size mth msz mrn mmy mdf mgu mhs mlv mba mgi mfi mle mst msu mtr mdi mfa mca p1 v9_53 _ hy103) (cwV 2 hts gX4_canBe_X4_cellOf rfl rfl rfl (by decide +kernel) ⟨Nat.le_of_ble_eq_true rfl, Nat.le_of_ble_eq_true rfl⟩) hK hP hD hS hA hl.1 [0, 1, 2, 3, 4, 5, 6, 7, 8, 9, 10] (by decide) rfl rfl rfl 4 0 rfl rfl rfl rfl rfl (Nat.le_of_ble_eq_true rfl) dX4_canBe_103 ⟨Nat.le_of_ble_eq_true rfl, Nat.le_of_ble_eq_true rfl⟩ (fun H locs hP hD hS => ?_)
                    obtain ⟨hz106, hf⟩ := gd_some hf
                    refine va_iald hx hb hK.1 hP 10 0 rfl rfl hz106 dX4_canBe_106 ?_
                    refine lv_iload hx hb dX4_canBe_107 (lv_at hl 1 rfl) ?_
                    refine lv_ishr hx hb dX4_canBe_109 ?_
                    refine lv_iconst (v := 1) hx hb dX4_canBe_110 (by decide) ?_
                    refine lv_iand hx hb dX4_canBe_111 ?_
                    refine lv_iconst (v := 1) hx hb dX4_canBe_112 (by decide) ?_
                    refine lv_icmp_ne (tgt := 132) hx hb dX4_canBe_113 (by decide) (fun c_113 => ?_) (fun c_113 => ?_)
                    · have hf := ite_f c_113 hf
                      exact w132 () hf _ _ _ hP hD hS (lv_sub hl [2, 3, 4, 5, 6, 7, 0, 8, 10, 1] rfl)
                    · have hf := ite_t c_113 hf
                      refine lv_iload hx hb dX4_canBe_116 (lv_at hl 10 rfl) ?_
                      refine lv_iload_n hx hb dX4_canBe_118 rfl (lv_at hl 4 rfl) ?_
                      obtain ⟨k128, hk128, hf⟩ := jn_some hf
                      have w128 : ∀ (_ : Unit), k128 () = some r → ∀ (H : Heap) (locs : List Loc) (ls : Array Slot), va_P D vwCl (wM cI cZ md mth msz mrn mmy mdf mgu mhs mlv mba mgi mfi mle mst msu mtr mdi mfa mca) H → va_D A (wM cI cZ md mth msz mrn mmy mdf mgu mhs mlv mba mgi mfi mle mst msu mtr mdi mfa mca) → va_S A s.heap H locs → lv_has ls 11 [(0, .ref (md 0)), (1, .int p1), (2, .int p2), (3, .int p3), (4, .int v4_30), (5, .int v5_33), (6, .int (v6_53 / 9)), (7, .int v7_53), (9, .int v9_53), (10, .int (1 + (v6_53 - v6_53 / 9 * 9)))] → W p l e rm_X4_canBe s m args below meth c H locs 0 0 Q (F0 m 128 ls []) := by
                        intro _ hf H locs ls hP hD hS hl
                        rw [hk128] at hf
                        try dsimp only at hf
                        refine lv_iconst (v := 1) hx hb dX4_canBe_128 (by decide) ?_
                        refine lv_goto (tgt := 133) hx hb dX4_canBe_129 (by decide) ?_
                        exact w133 1 hf _ _ _ hP hD hS (lv_sub hl [0, 1, 2, 3, 4, 5, 6, 7, 8, 9] rfl)
                      refine lv_icmp_ne (tgt := 128) hx hb dX4_canBe_119 (by decide) (fun c_119 => ?_) (fun c_119 => ?_)
                      · have hf := ite_f c_119 hf
                        exact w128 () hf _ _ _ hP hD hS (lv_sub hl [2, 3, 4, 5, 6, 7, 0, 8, 10, 1] rfl)
                      · have hf := ite_t c_119 hf
                        refine lv_iload hx hb dX4_canBe_122 (lv_at hl 1 rfl) ?_
                        refine lv_iload_n hx hb dX4_canBe_124 rfl (lv_at hl 5 rfl) ?_
                        refine lv_icmp_ne (tgt := 132) hx hb dX4_canBe_125 (by decide) (fun c_125 => ?_) (fun c_125 => ?_)
                        · have hf := ite_f c_125 hf
                          exact w132 () hf _ _ _ hP hD hS (lv_sub hl [2, 3, 4, 5, 6, 7, 0, 8, 10, 1] rfl)
                        · have hf := ite_t c_125 hf
                          exact w128 () hf _ _ _ hP hD hS (lv_sub hl [2, 3, 4, 5, 6, 7, 0, 8, 10, 1] rfl)
          exact l53 N v5_33 0 1 0 hf _ _ _ hP hD hS (lv_sub hl [4, 5, 6, 7, 8, 9, 3, 2, 1, 0] rfl)
    exact l33 N 0 hf _ _ _ hP hD hS (lv_sub hl [1, 2, 3, 4, 5, 0] rfl)
  have l6 : ∀ (nn : Nat) (v4_6 : Int32) (v5_6 : Int32), f_X4_canBe_L6 p1 mle k30 nn v4_6 v5_6 = some r → ∀ (H : Heap) (locs : List Loc) (ls : Array Slot), va_P D vwCl (wM cI cZ md mth msz mrn mmy mdf mgu mhs mlv mba mgi mfi mle mst msu mtr mdi mfa mca) H → va_D A (wM cI cZ md mth msz mrn mmy mdf mgu mhs mlv mba mgi mfi mle mst msu mtr mdi mfa mca) → va_S A s.heap H locs → lv_has ls 11 [(0, .ref (md 0)), (1, .int p1), (2, .int p2), (3, .int p3), (4, .int v4_6), (5, .int v5_6)] → W p l e rm_X4_canBe s m args below meth c H locs 0 0 Q (F0 m 6 ls []) := by
    intro nn
    induction nn with
    | zero => intro _ _ hf; exact nomatch (show (none : Option _) = some r from hf)
    | succ n6 ih6 =>
      intro v4_6 v5_6 hf H locs ls hP hD hS hl
      rw [f_X4_canBe_L6.eq_2] at hf
      refine lv_iload hx hb dX4_canBe_6 (lv_at hl 5 rfl) ?_
      refine lv_aload_n hx hb dX4_canBe_8 rfl (lv_at hl 0 rfl) ?_
      refine va_get (D := D) (ci := 4) (v := .ref (md 4)) (C := RX4) (T := TX4) (N := 18) hx hb hts hinX4 hown hK.1 hP 0 rfl rfl 6 (by decide) (hts (.fieldLink RX4 24 "GridpuzzleModel" "lengths" "[I") (by decide +kernel)) (fun _ h9 => h9) rfl dX4_canBe_9 ?_
      refine lv_iload_n hx hb dX4_canBe_12 rfl (lv_at hl 1 rfl) ?_
      obtain ⟨hz13, hf⟩ := gd_some hf
      refine va_iald hx hb hK.1 hP 4 0 rfl rfl hz13 dX4_canBe_13 ?_
      refine lv_icmp_ge (tgt := 30) hx hb dX4_canBe_14 (by decide) (fun c_14 => ?_) (fun c_14 => ?_)
      · have hf := ite_t c_14 hf
        exact w30 v4_6 hf _ _ _ hP hD hS (lv_sub hl [0, 1, 2, 3, 4] rfl)
      · have hf := ite_f c_14 hf
        refine lv_iload hx hb dX4_canBe_17 (lv_at hl 4 rfl) ?_
        refine lv_bipush (v := 9) hx hb dX4_canBe_19 (by decide) ?_
        refine lv_imul hx hb dX4_canBe_21 ?_
        refine lv_istore (lv' := [(4, .int (v4_6 * 9)), (0, .ref (md 0)), (1, .int p1), (2, .int p2), (3, .int p3), (5, .int v5_6)]) hx hb dX4_canBe_22 hl (by decide) rfl (fun ls hl => ?_)
        refine lv_iinc (v := (v5_6 + 1)) (lv' := [(5, .int (v5_6 + 1)), (4, .int (v4_6 * 9)), (0, .ref (md 0)), (1, .int p1), (2, .int p2), (3, .int p3)]) hx hb dX4_canBe_24 hl (k := 5) rfl rfl (by decide) rfl (fun ls hl => ?_)
        refine lv_goto (tgt := 6) hx hb dX4_canBe_27 (by decide) ?_
        exact ih6 (v4_6 * 9) (v5_6 + 1) hf _ _ _ hP hD hS (lv_sub hl [2, 3, 4, 5, 1, 0] rfl)
  exact l6 N 1 0 hf _ _ _ hP hD hS (lv_sub hl [2, 3, 4, 5, 1, 0] rfl)
def rm_X4_goThroughRows : Room := { frames := 2, cells := 0, slots := 0, locals := 52 }
set_option maxRecDepth 100000 in
set_option maxHeartbeats 8000000 in
theorem K_X4_goThroughRows (l : Launch) (D : va_G) (cI cZ : ClassId) (md : Nat → Nat) (sz : Nat) (N : Nat) (mth msz mrn mmy mdf mgu mhs mlv : Int32) (mba mgi mfi mle mst msu mtr mdi mfa mca : Nat → Int32) (r : (Int32 × (Nat → Int32))) (hf : f_X4_goThroughRows N mrn mhs mfi mle mst msu mca = some r) : Met l yX4_goThroughRows wsX4_goThroughRows rm_X4_goThroughRows (PC D cI cZ sz [.ref (md 0)] (wM cI cZ md mth msz mrn mmy mdf mgu mhs mlv mba mgi mfi mle mst msu mtr mdi mfa mca)) (QV D cI cZ sz (wM cI cZ md mth msz mrn mmy mdf mgu mhs mlv mba mgi mfi mle mst msu mtr mdi mfa mca) (wM cI cZ md mth msz mrn mmy mdf mgu r.1 mlv mba mgi mfi mle mst msu mtr mdi mfa r.2)) 0 0 (va_A (wM cI cZ md mth msz mrn mmy mdf mgu mhs mlv mba mgi mfi mle mst msu mtr mdi mfa mca) sz) := by
  refine mk_v (cc := cX4_goThroughRows) (maxL := 5) (lv0 := [(0, .ref (md 0))]) (by decide) rfl (Nat.le_of_ble_eq_true rfl) rfl ?_
  intro p e s m args below meth c ls A Q H hx hb hml hown hts hK hP hD hA hS hl hR
  have hinX4 : ∀ w ∈ wsX40, w ∈ wsX4_goThroughRows := by decide +kernel
  rw [f_X4_goThroughRows] at hf
  refine lv_iconst (v := 0) hx hb dX4_goThroughRows_0 (by decide) ?_
  refine lv_istore_n (lv' := [(1, .int 0), (0, .ref (md 0))]) hx hb dX4_goThroughRows_1 rfl hl (by decide) rfl (fun ls hl => ?_)
  have l2 : ∀ (nn : Nat) (v1_2 : Int32) (mhs_2 : Int32) (mca_2 : Nat → Int32), f_X4_goThroughRows_L2 N mrn mfi mle mst msu nn v1_2 mhs_2 mca_2 = some r → ∀ (H : Heap) (locs : List Loc) (ls : Array Slot), va_P D vwCl (wM cI cZ md mth msz mrn mmy mdf mgu mhs_2 mlv mba mgi mfi mle mst msu mtr mdi mfa mca_2) H → va_D A (wM cI cZ md mth msz mrn mmy mdf mgu mhs_2 mlv mba mgi mfi mle mst msu mtr mdi mfa mca_2) → va_S A s.heap H locs → lv_has ls 5 [(0, .ref (md 0)), (1, .int v1_2)] → W p l e rm_X4_goThroughRows s m args below meth c H locs 0 0 Q (F0 m 2 ls []) := by
    intro nn
    induction nn with
    | zero => intro _ _ _ hf; exact nomatch (show (none : Option _) = some r from hf)
    | succ n2 ih2 =>
      intro v1_2 mhs_2 mca_2 hf H locs ls hP hD hS hl
      rw [f_X4_goThroughRows_L2.eq_2] at hf
      refine lv_iload_n hx hb dX4_goThroughRows_2 rfl (lv_at hl 1 rfl) ?_
      refine lv_aload_n hx hb dX4_goThroughRows_3 rfl (lv_at hl 0 rfl) ?_
      refine va_get (D := D) (ci := 4) (v := .int mrn) (C := RX4) (T := TX4) (N := 18) hx hb hts hinX4 hown hK.1 hP 0 rfl rfl 4 (by decide) (hts (.fieldLink RX4 59 "GridpuzzleModel" "runs" "I") (by decide +kernel)) (fun _ h9 => h9) rfl dX4_goThroughRows_4 ?_
      refine lv_icmp_ge (tgt := 111) hx hb dX4_goThroughRows_7 (by decide) (fun c_7 => ?_) (fun c_7 => ?_)
      · have hf := ite_t c_7 hf
        cases hf
        exact hR _ _ _ _ _ rfl hP hD hS dX4_goThroughRows_111
      · have hf := ite_f c_7 hf
        refine lv_iconst (v := 0) hx hb dX4_goThroughRows_10 (by decide) ?_
        refine lv_istore_n (lv' := [(2, .int 0), (0, .ref (md 0)), (1, .int v1_2)]) hx hb dX4_goThroughRows_11 rfl hl (by decide) rfl (fun ls hl => ?_)
        obtain ⟨k105, hk105, hf⟩ := jn_some hf
        have w105 : ∀ (mhs_105 : Int32) (mca_105 : Nat → Int32), k105 mhs_105 mca_105 = some r → ∀ (H : Heap) (locs : List Loc) (ls : Array Slot), va_P D vwCl (wM cI cZ md mth msz mrn mmy mdf mgu mhs_105 mlv mba mgi mfi mle mst msu mtr mdi mfa mca_105) H → va_D A (wM cI cZ md mth msz mrn mmy mdf mgu mhs_105 mlv mba mgi mfi mle mst msu mtr mdi mfa mca_105) → va_S A s.heap H locs → lv_has ls 5 [(0, .ref (md 0)), (1, .int v1_2)] → W p l e rm_X4_goThroughRows s m args below meth c H locs 0 0 Q (F0 m 105 ls []) := by
          intro mhs_105 mca_105 hf H locs ls hP hD hS hl
          rw [hk105] at hf
          try dsimp only at hf
          refine lv_iinc (v := (v1_2 + 1)) (lv' := [(1, .int (v1_2 + 1)), (0, .ref (md 0))]) hx hb dX4_goThroughRows_105 hl (k := 1) rfl rfl (by decide) rfl (fun ls hl => ?_)
          refine lv_goto (tgt := 2) hx hb dX4_goThroughRows_108 (by decide) ?_
          exact ih2 (v1_2 + 1) mhs_105 mca_105 hf _ _ _ hP hD hS (lv_sub hl [1, 0] rfl)
        have l12 : ∀ (nn : Nat) (v2_12 : Int32) (mhs_12 : Int32) (mca_12 : Nat → Int32), f_X4_goThroughRows_L12 N v1_2 mfi mle mst msu k105 nn v2_12 mhs_12 mca_12 = some r → ∀ (H : Heap) (locs : List Loc) (ls : Array Slot), va_P D vwCl (wM cI cZ md mth msz mrn mmy mdf mgu mhs_12 mlv mba mgi mfi mle mst msu mtr mdi mfa mca_12) H → va_D A (wM cI cZ md mth msz mrn mmy mdf mgu mhs_12 mlv mba mgi mfi mle mst msu mtr mdi mfa mca_12) → va_S A s.heap H locs → lv_has ls 5 [(0, .ref (md 0)), (1, .int v1_2), (2, .int v2_12)] → W p l e rm_X4_goThroughRows s m args below meth c H locs 0 0 Q (F0 m 12 ls []) := by
          intro nn
          induction nn with
          | zero => intro _ _ _ hf; exact nomatch (show (none : Option _) = some r from hf)
          | succ n12 ih12 =>
            intro v2_12 mhs_12 mca_12 hf H locs ls hP hD hS hl
            rw [f_X4_goThroughRows_L12.eq_2] at hf
            refine lv_iload_n hx hb dX4_goThroughRows_12 rfl (lv_at hl 2 rfl) ?_
            refine lv_aload_n hx hb dX4_goThroughRows_13 rfl (lv_at hl 0 rfl) ?_
            refine va_get (D := D) (ci := 4) (v := .ref (md 4)) (C := RX4) (T := TX4) (N := 18) hx hb hts hinX4 hown hK.1 hP 0 rfl rfl 6 (by decide) (hts (.fieldLink RX4 24 "GridpuzzleModel" "lengths" "[I") (by decide +kernel)) (fun _ h9 => h9) rfl dX4_goThroughRows_14 ?_
            refine lv_iload_n hx hb dX4_goThroughRows_17 rfl (lv_at hl 1 rfl) ?_
            obtain ⟨hz18, hf⟩ := gd_some hf
            refine va_iald hx hb hK.1 hP 4 0 rfl rfl hz18 dX4_goThroughRows_18 ?_
            refine lv_icmp_ge (tgt := 105) hx hb dX4_goThroughRows_19 (by decide) (fun c_19 => ?_) (fun c_19 => ?_)
            · have hf := ite_t c_19 hf
              exact w105 mhs_12 mca_12 hf _ _ _ hP hD hS (lv_sub hl [0, 1] rfl)
            · have hf := ite_f c_19 hf
              refine lv_aload_n hx hb dX4_goThroughRows_22 rfl (lv_at hl 0 rfl) ?_
              refine va_get (D := D) (ci := 4) (v := .ref (md 6)) (C := RX4) (T := TX4) (N := 18) hx hb hts hinX4 hown hK.1 hP 0 rfl rfl 8 (by decide) (hts (.fieldLink RX4 30 "GridpuzzleModel" "sums" "[I") (by decide +kernel)) (fun _ h9 => h9) rfl dX4_goThroughRows_23 ?_
              refine lv_iload_n hx hb dX4_goThroughRows_26 rfl (lv_at hl 1 rfl) ?_
              obtain ⟨hz27, hf⟩ := gd_some hf
              refine va_iald hx hb hK.1 hP 6 0 rfl rfl hz27 dX4_goThroughRows_27 ?_
              refine lv_if_le (tgt := 105) hx hb dX4_goThroughRows_28 (by decide) (fun c_28 => ?_) (fun c_28 => ?_)
              · have hf := ite_t c_28 hf
                exact w105 mhs_12 mca_12 hf _ _ _ hP hD hS (lv_sub hl [0, 1] rfl)
              · have hf := ite_f c_28 hf
                refine lv_iconst (v := 1) hx hb dX4_goThroughRows_31 (by decide) ?_
                refine lv_istore_n (lv' := [(3, .int 1), (0, .ref (md 0)), (1, .int v1_2), (2, .int v2_12)]) hx hb dX4_goThroughRows_32 rfl hl (by decide) rfl (fun ls hl => ?_)
                obtain ⟨k99, hk99, hf⟩ := jn_some hf
                have w99 : ∀ (mhs_99 : Int32) (mca_99 : Nat → Int32), k99 mhs_99 mca_99 = some r → ∀ (H : Heap) (locs : List Loc) (ls : Array Slot), va_P D vwCl (wM cI cZ md mth msz mrn mmy mdf mgu mhs_99 mlv mba mgi mfi mle mst msu mtr mdi mfa mca_99) H → va_D A (wM cI cZ md mth msz mrn mmy mdf mgu mhs_99 mlv mba mgi mfi mle mst msu mtr mdi mfa mca_99) → va_S A s.heap H locs → lv_has ls 5 [(0, .ref (md 0)), (1, .int v1_2), (2, .int v2_12)] → W p l e rm_X4_goThroughRows s m args below meth c H locs 0 0 Q (F0 m 99 ls []) := by
                  intro mhs_99 mca_99 hf H locs ls hP hD hS hl
                  rw [hk99] at hf
                  try dsimp only at hf
                  refine lv_iinc (v := (v2_12 + 1)) (lv' := [(2, .int (v2_12 + 1)), (0, .ref (md 0)), (1, .int v1_2)]) hx hb dX4_goThroughRows_99 hl (k := 2) rfl rfl (by decide) rfl (fun ls hl => ?_)
                  refine lv_goto (tgt := 12) hx hb dX4_goThroughRows_102 (by decide) ?_
                  exact ih12 (v2_12 + 1) mhs_99 mca_99 hf _ _ _ hP hD hS (lv_sub hl [1, 2, 0] rfl)
                have l33 : ∀ (nn : Nat) (v3_33 : Int32) (mhs_33 : Int32) (mca_33 : Nat → Int32), f_X4_goThroughRows_L33 N v1_2 v2_12 mfi mle mst msu k99 nn v3_33 mhs_33 mca_33 = some r → ∀ (H : Heap) (locs : List Loc) (ls : Array Slot), va_P D vwCl (wM cI cZ md mth msz mrn mmy mdf mgu mhs_33 mlv mba mgi mfi mle mst msu mtr mdi mfa mca_33) H → va_D A (wM cI cZ md mth msz mrn mmy mdf mgu mhs_33 mlv mba mgi mfi mle mst msu mtr mdi mfa mca_33) → va_S A s.heap H locs → lv_has ls 5 [(0, .ref (md 0)), (1, .int v1_2), (2, .int v2_12), (3, .int v3_33)] → W p l e rm_X4_goThroughRows s m args below meth c H locs 0 0 Q (F0 m 33 ls []) := by
                  intro nn
                  induction nn with
                  | zero => intro _ _ _ hf; exact nomatch (show (none : Option _) = some r from hf)
                  | succ n33 ih33 =>
                    intro v3_33 mhs_33 mca_33 hf H locs ls hP hD hS hl
                    rw [f_X4_goThroughRows_L33.eq_2] at hf
                    refine lv_iload_n hx hb dX4_goThroughRows_33 rfl (lv_at hl 3 rfl) ?_
                    refine lv_bipush (v := 9) hx hb dX4_goThroughRows_34 (by decide) ?_
                    refine lv_icmp_gt (tgt := 99) hx hb dX4_goThroughRows_36 (by decide) (fun c_36 => ?_) (fun c_36 => ?_)
                    · have hf := ite_t c_36 hf
                      exact w99 mhs_33 mca_33 hf _ _ _ hP hD hS (lv_sub hl [0, 1, 2] rfl)
                    · have hf := ite_f c_36 hf
                      refine lv_aload_n hx hb dX4_goThroughRows_39 rfl (lv_at hl 0 rfl) ?_
                      refine va_get (D := D) (ci := 4) (v := .ref (md 10)) (C := RX4) (T := TX4) (N := 18) hx hb hts hinX4 hown hK.1 hP 0 rfl rfl 15 (by decide) (hts (.fieldLink RX4 42 "GridpuzzleModel" "candidates" "[I") (by decide +kernel)) (fun _ h9 => h9) rfl dX4_goThroughRows_40 ?_
                      refine lv_aload_n hx hb dX4_goThroughRows_43 rfl (lv_at hl 0 rfl) ?_
                      refine lv_iload_n hx hb dX4_goThroughRows_44 rfl (lv_at hl 1 rfl) ?_
                      refine lv_iload_n hx hb dX4_goThroughRows_45 rfl (lv_at hl 2 rfl) ?_
                      obtain ⟨x46, hy46, hf⟩ := Option.bind_eq_some_iff.mp hf
                      refine clV_i (As := [.int v1_2, .int v2_12]) (rest := [.ref (md 10)]) (wM cI cZ md mth msz mrn mmy mdf mgu mhs_33 mlv mba mgi mfi mle mst msu mtr mdi mfa mca_33) ⟨hx, hb, hml, hown, hts⟩ (K_X4_cellOf l D cI cZ md H.size mth msz mrn mmy mdf mgu mhs_33 mlv mba mgi mfi mle mst msu mtr mdi mfa mca_33 v1_2 v2_12 _ hy46) (cwV 2 hts gX4_goThroughRows_X4_cellOf rfl rfl rfl (by decide +kernel) ⟨Nat.le_of_ble_eq_true rfl, Nat.le_of_ble_eq_true rfl⟩) hK hP hD hS hA hl.1 [0, 1, 2, 3, 4, 5, 6, 7, 8, 9, 10] (by decide) rfl rfl rfl 4 0 rfl rfl rfl rfl rfl (Nat.le_of_ble_eq_true rfl) dX4_goThroughRows_46 ⟨Nat.le_of_ble_eq_true rfl, Nat.le_of_ble_eq_true rfl⟩ (fun H locs hP hD hS => ?_)
                      obtain ⟨hz49, hf⟩ := gd_some hf
                      refine va_iald hx hb hK.1 hP 10 0 rfl rfl hz49 dX4_goThroughRows_49 ?_
                      refine lv_iload_n hx hb dX4_goThroughRows_50 rfl (lv_at hl 3 rfl) ?_
                      refine lv_ishr hx hb dX4_goThroughRows_51 ?_
                      refine lv_iconst (v := 1) hx hb dX4_goThroughRows_52 (by decide) ?_
                      refine lv_iand hx hb dX4_goThroughRows_53 ?_
                      refine lv_iconst (v := 1) hx hb dX4_goThroughRows_54 (by decide) ?_
                      obtain ⟨k63, hk63, hf⟩ := jn_some hf
                      have w63 : ∀ (t0_63 : Int32), k63 t0_63 = some r → ∀ (H : Heap) (locs : List Loc) (ls : Array Slot), va_P D vwCl (wM cI cZ md mth msz mrn mmy mdf mgu mhs_33 mlv mba mgi mfi mle mst msu mtr mdi mfa mca_33) H → va_D A (wM cI cZ md mth msz mrn mmy mdf mgu mhs_33 mlv mba mgi mfi mle mst msu mtr mdi mfa mca_33) → va_S A s.heap H locs → lv_has ls 5 [(0, .ref (md 0)), (1, .int v1_2), (2, .int v2_12), (3, .int v3_33)] → W p l e rm_X4_goThroughRows s m args below meth c H locs 0 0 Q (F0 m 63 ls [.int t0_63]) := by
                        intro t0_63 hf H locs ls hP hD hS hl
                        rw [hk63] at hf
                        try dsimp only at hf
                        refine lv_istore (lv' := [(4, .int t0_63), (0, .ref (md 0)), (1, .int v1_2), (2, .int v2_12), (3, .int v3_33)]) hx hb dX4_goThroughRows_63 hl (by decide) rfl (fun ls hl => ?_)
                        refine lv_iload hx hb dX4_goThroughRows_65 (lv_at hl 0 rfl) ?_
                        obtain ⟨k93, hk93, hf⟩ := jn_some hf
                        have w93 : ∀ (mhs_93 : Int32) (mca_93 : Nat → Int32), k93 mhs_93 mca_93 = some r → ∀ (H : Heap) (locs : List Loc) (ls : Array Slot), va_P D vwCl (wM cI cZ md mth msz mrn mmy mdf mgu mhs_93 mlv mba mgi mfi mle mst msu mtr mdi mfa mca_93) H → va_D A (wM cI cZ md mth msz mrn mmy mdf mgu mhs_93 mlv mba mgi mfi mle mst msu mtr mdi mfa mca_93) → va_S A s.heap H locs → lv_has ls 5 [(0, .ref (md 0)), (1, .int v1_2), (2, .int v2_12), (3, .int v3_33)] → W p l e rm_X4_goThroughRows s m args below meth c H locs 0 0 Q (F0 m 93 ls []) := by
                          intro mhs_93 mca_93 hf H locs ls hP hD hS hl
                          rw [hk93] at hf
                          try dsimp only at hf
                          refine lv_iinc (v := (v3_33 + 1)) (lv' := [(3, .int (v3_33 + 1)), (0, .ref (md 0)), (1, .int v1_2), (2, .int v2_12)]) hx hb dX4_goThroughRows_93 hl (k := 3) rfl rfl (by decide) rfl (fun ls hl => ?_)
                          refine lv_goto (tgt := 33) hx hb dX4_goThroughRows_96 (by decide) ?_
                          exact ih33 (v3_33 + 1) mhs_93 mca_93 hf _ _ _ hP hD hS (lv_sub hl [1, 2, 3, 0] rfl)
                        refine lv_if_eq (tgt := 93) hx hb dX4_goThroughRows_67 (by decide) (fun c_67 => ?_) (fun c_67 => ?_)
                        · have hf := ite_t c_67 hf
                          exact w93 mhs_33 mca_33 hf _ _ _ hP hD hS (lv_sub hl [1, 2, 3, 4] rfl)
                        · have hf := ite_f c_67 hf
                          refine lv_aload_n hx hb dX4_goThroughRows_70 rfl (lv_at hl 1 rfl) ?_
                          refine lv_iload_n hx hb dX4_goThroughRows_71 rfl (lv_at hl 2 rfl) ?_
                          refine lv_iload_n hx hb dX4_goThroughRows_72 rfl (lv_at hl 3 rfl) ?_
                          refine lv_iload_n hx hb dX4_goThroughRows_73 rfl (lv_at hl 4 rfl) ?_
                          obtain ⟨x74, hy74, hf⟩ := Option.bind_eq_some_iff.mp hf
                          refine clV_i (As := [.int v1_2, .int v2_12, .int v3_33]) (rest := []) (wM cI cZ md mth msz mrn mmy mdf mgu mhs_33 mlv mba mgi mfi mle mst msu mtr mdi mfa mca_33) ⟨hx, hb, hml, hown, hts⟩ (K_X4_canBe l D cI cZ md H.size N mth msz mrn mmy mdf mgu mhs_33 mlv mba mgi mfi mle mst msu mtr mdi mfa mca_33 v1_2 v2_12 v3_33 _ hy74) (cwV 3 hts gX4_goThroughRows_X4_canBe rfl rfl rfl (by decide +kernel) ⟨Nat.le_of_ble_eq_true rfl, Nat.le_of_ble_eq_true rfl⟩) hK hP hD hS hA hl.1 [0, 1, 2, 3, 4, 5, 6, 7, 8, 9, 10] (by decide) rfl rfl rfl 4 0 rfl rfl rfl rfl rfl (Nat.le_of_ble_eq_true rfl) dX4_goThroughRows_74 ⟨Nat.le_of_ble_eq_true rfl, Nat.le_of_ble_eq_true rfl⟩ (fun H locs hP hD hS => ?_)
                          refine lv_if_ne (tgt := 93) hx hb dX4_goThroughRows_77 (by decide) (fun c_77 => ?_) (fun c_77 => ?_)
                          · have hf := ite_f c_77 hf
                            exact w93 mhs_33 mca_33 hf _ _ _ hP hD hS (lv_sub hl [1, 2, 3, 4] rfl)
                          · have hf := ite_t c_77 hf
                            refine lv_aload_n hx hb dX4_goThroughRows_80 rfl (lv_at hl 1 rfl) ?_
                            refine lv_aload_n hx hb dX4_goThroughRows_81 rfl (lv_at hl 1 rfl) ?_
                            refine lv_iload_n hx hb dX4_goThroughRows_82 rfl (lv_at hl 2 rfl) ?_
                            refine lv_iload_n hx hb dX4_goThroughRows_83 rfl (lv_at hl 3 rfl) ?_
                            obtain ⟨x84, hy84, hf⟩ := Option.bind_eq_some_iff.mp hf
                            refine clV_i (As := [.int v1_2, .int v2_12]) (rest := [.ref (md 0)]) (wM cI cZ md mth msz mrn mmy mdf mgu mhs_33 mlv mba mgi mfi mle mst msu mtr mdi mfa mca_33) ⟨hx, hb, hml, hown, hts⟩ (K_X4_cellOf l D cI cZ md H.size mth msz mrn mmy mdf mgu mhs_33 mlv mba mgi mfi mle mst msu mtr mdi mfa mca_33 v1_2 v2_12 _ hy84) (cwV 2 hts gX4_goThroughRows_X4_cellOf rfl rfl rfl (by decide +kernel) ⟨Nat.le_of_ble_eq_true rfl, Nat.le_of_ble_eq_true rfl⟩) hK hP hD hS hA hl.1 [0, 1, 2, 3, 4, 5, 6, 7, 8, 9, 10] (by decide) rfl rfl rfl 4 0 rfl rfl rfl rfl rfl (Nat.le_of_ble_eq_true rfl) dX4_goThroughRows_84 ⟨Nat.le_of_ble_eq_true rfl, Nat.le_of_ble_eq_true rfl⟩ (fun H locs hP hD hS => ?_)
                            refine lv_iconst (v := 1) hx hb dX4_goThroughRows_87 (by decide) ?_
                            refine lv_iload_n hx hb dX4_goThroughRows_88 rfl (lv_at hl 4 rfl) ?_
                            refine lv_ishl hx hb dX4_goThroughRows_89 ?_
                            obtain ⟨x90, hy90, hf⟩ := Option.bind_eq_some_iff.mp hf
                            refine clV_v (As := [.int x84, .int (1 <<< (v3_33 &&& 31))]) (rest := []) (wM cI cZ md mth msz mrn mmy mdf mgu x90.1 mlv mba mgi mfi mle mst msu mtr mdi mfa x90.2) ⟨hx, hb, hml, hown, hts⟩ (K_X4_take l D cI cZ md H.size mth msz mrn mmy mdf mgu mhs_33 mlv mba mgi mfi mle mst msu mtr mdi mfa mca_33 x84 (1 <<< (v3_33 &&& 31)) _ hy90) (cwV 2 hts gX4_goThroughRows_X4_take rfl rfl rfl (by decide +kernel) ⟨Nat.le_of_ble_eq_true rfl, Nat.le_of_ble_eq_true rfl⟩) hK hP hD hS hA hl.1 [0, 1, 2, 3, 4, 5, 6, 7, 8, 9, 10] (by decide) rfl rfl rfl 4 0 rfl rfl rfl rfl rfl (Nat.le_of_ble_eq_true rfl) dX4_goThroughRows_90 ⟨Nat.le_of_ble_eq_true rfl, Nat.le_of_ble_eq_true rfl⟩ (fun H locs hP hD hS => ?_)
                            exact w93 x90.1 x90.2 hf _ _ _ hP hD hS (lv_sub hl [1, 2, 3, 4] rfl)
                      refine lv_icmp_ne (tgt := 62) hx hb dX4_goThroughRows_55 (by decide) (fun c_55 => ?_) (fun c_55 => ?_)
                      · have hf := ite_f c_55 hf
                        refine lv_iconst (v := 0) hx hb dX4_goThroughRows_62 (by decide) ?_
                        exact w63 0 hf _ _ _ hP hD hS (lv_sub hl [0, 1, 2, 3] rfl)
                      · have hf := ite_t c_55 hf
                        refine lv_iconst (v := 1) hx hb dX4_goThroughRows_58 (by decide) ?_
                        refine lv_goto (tgt := 63) hx hb dX4_goThroughRows_59 (by decide) ?_
                        exact w63 1 hf _ _ _ hP hD hS (lv_sub hl [0, 1, 2, 3] rfl)
                exact l33 N 1 mhs_12 mca_12 hf _ _ _ hP hD hS (lv_sub hl [1, 2, 3, 0] rfl)
        exact l12 N 0 mhs_2 mca_2 hf _ _ _ hP hD hS (lv_sub hl [1, 2, 0] rfl)
  exact l2 N 0 mhs mca hf _ _ _ hP hD hS (lv_sub hl [1, 0] rfl)
def rm_X4_isDead : Room := { frames := 3, cells := 0, slots := 0, locals := 64 }
set_option maxRecDepth 100000 in
set_option maxHeartbeats 8000000 in
theorem K_X4_isDead (l : Launch) (D : va_G) (cI cZ : ClassId) (md : Nat → Nat) (sz : Nat) (N : Nat) (mth msz mrn mmy mdf mgu mhs mlv : Int32) (mba mgi mfi mle mst msu mtr mdi mfa mca : Nat → Int32) (r : (Int32)) (hf : f_X4_isDead N msz mba mca = some r) : Met l yX4_isDead wsX4_isDead rm_X4_isDead (PC D cI cZ sz [.ref (md 0)] (wM cI cZ md mth msz mrn mmy mdf mgu mhs mlv mba mgi mfi mle mst msu mtr mdi mfa mca)) (QI D cI cZ sz (wM cI cZ md mth msz mrn mmy mdf mgu mhs mlv mba mgi mfi mle mst msu mtr mdi mfa mca) r (wM cI cZ md mth msz mrn mmy mdf mgu mhs mlv mba mgi mfi mle mst msu mtr mdi mfa mca)) 0 0 (va_A (wM cI cZ md mth msz mrn mmy mdf mgu mhs mlv mba mgi mfi mle mst msu mtr mdi mfa mca) sz) := by
  refine mk_z (cc := cX4_isDead) (maxL := 3) (lv0 := [(0, .ref (md 0))]) (by decide) rfl (Nat.le_of_ble_eq_true rfl) rfl ?_
  intro p e s m args below meth c ls A Q H hx hb hml hown hts hK hP hD hA hS hl hR
  have hinX4 : ∀ w ∈ wsX40, w ∈ wsX4_isDead := by decide +kernel
  rw [f_X4_isDead] at hf
  refine lv_iconst (v := 0) hx hb dX4_isDead_0 (by decide) ?_
  refine lv_istore_n (lv' := [(1, .int 0), (0, .ref (md 0))]) hx hb dX4_isDead_1 rfl hl (by decide) rfl (fun ls hl => ?_)
  refine lv_iconst (v := 0) hx hb dX4_isDead_2 (by decide) ?_
  refine lv_istore_n (lv' := [(2, .int 0), (1, .int 0), (0, .ref (md 0))]) hx hb dX4_isDead_3 rfl hl (by decide) rfl (fun ls hl => ?_)
  have l4 : ∀ (nn : Nat) (v1_4 : Int32) (v2_4 : Int32), f_X4_isDead_L4 msz mba mca nn v1_4 v2_4 = some r → ∀ (H : Heap) (locs : List Loc) (ls : Array Slot), va_P D vwCl (wM cI cZ md mth msz mrn mmy mdf mgu mhs mlv mba mgi mfi mle mst msu mtr mdi mfa mca) H → va_D A (wM cI cZ md mth msz mrn mmy mdf mgu mhs mlv mba mgi mfi mle mst msu mtr mdi mfa mca) → va_S A s.heap H locs → lv_has ls 3 [(0, .ref (md 0)), (1, .int v1_4), (2, .int v2_4)] → W p l e rm_X4_isDead s m args below meth c H locs 0 0 Q (F0 m 4 ls []) := by
    intro nn
    induction nn with
    | zero => intro _ _ hf; exact nomatch (show (none : Option _) = some r from hf)
    | succ n4 ih4 =>
      intro v1_4 v2_4 hf H locs ls hP hD hS hl
      rw [f_X4_isDead_L4.eq_2] at hf
      refine lv_iload_n hx hb dX4_isDead_4 rfl (lv_at hl 2 rfl) ?_
      refine lv_bipush (v := 16) hx hb dX4_isDead_5 (by decide) ?_
      refine lv_icmp_ge (tgt := 43) hx hb dX4_isDead_7 (by decide) (fun c_7 => ?_) (fun c_7 => ?_)
      · have hf := ite_t c_7 hf
        refine lv_iload_n hx hb dX4_isDead_43 rfl (lv_at hl 1 rfl) ?_
        obtain ⟨hz44, hf⟩ := gd_some hf
        cases hf
        exact hR _ _ _ _ _ _ hz44 rfl rfl hP hD hS dX4_isDead_44
      · have hf := ite_f c_7 hf
        refine lv_iload_n hx hb dX4_isDead_10 rfl (lv_at hl 1 rfl) ?_
        obtain ⟨k36, hk36, hf⟩ := jn_some hf
        have w36 : ∀ (t0_36 : Int32), k36 t0_36 = some r → ∀ (H : Heap) (locs : List Loc) (ls : Array Slot), va_P D vwCl (wM cI cZ md mth msz mrn mmy mdf mgu mhs mlv mba mgi mfi mle mst msu mtr mdi mfa mca) H → va_D A (wM cI cZ md mth msz mrn mmy mdf mgu mhs mlv mba mgi mfi mle mst msu mtr mdi mfa mca) → va_S A s.heap H locs → lv_has ls 3 [(0, .ref (md 0)), (2, .int v2_4)] → W p l e rm_X4_isDead s m args below meth c H locs 0 0 Q (F0 m 36 ls [.int t0_36]) := by
          intro t0_36 hf H locs ls hP hD hS hl
          rw [hk36] at hf
          try dsimp only at hf
          refine lv_istore_n (lv' := [(1, .int t0_36), (0, .ref (md 0)), (2, .int v2_4)]) hx hb dX4_isDead_36 rfl hl (by decide) rfl (fun ls hl => ?_)
          refine lv_iinc (v := (v2_4 + 1)) (lv' := [(2, .int (v2_4 + 1)), (1, .int t0_36), (0, .ref (md 0))]) hx hb dX4_isDead_37 hl (k := 2) rfl rfl (by decide) rfl (fun ls hl => ?_)
          refine lv_goto (tgt := 4) hx hb dX4_isDead_40 (by decide) ?_
          exact ih4 t0_36 (v2_4 + 1) hf _ _ _ hP hD hS (lv_sub hl [2, 1, 0] rfl)
        obtain ⟨k31, hk31, hf⟩ := jn_some hf
        have w31 : ∀ (_ : Unit), k31 () = some r → ∀ (H : Heap) (locs : List Loc) (ls : Array Slot), va_P D vwCl (wM cI cZ md mth msz mrn mmy mdf mgu mhs mlv mba mgi mfi mle mst msu mtr mdi mfa mca) H → va_D A (wM cI cZ md mth msz mrn mmy mdf mgu mhs mlv mba mgi mfi mle mst msu mtr mdi mfa mca) → va_S A s.heap H locs → lv_has ls 3 [(0, .ref (md 0)), (2, .int v2_4)] → W p l e rm_X4_isDead s m args below meth c H locs 0 0 Q (F0 m 31 ls []) := by
          intro _ hf H locs ls hP hD hS hl
          rw [hk31] at hf
          try dsimp only at hf
          refine lv_iconst (v := 1) hx hb dX4_isDead_31 (by decide) ?_
          refine lv_goto (tgt := 36) hx hb dX4_isDead_32 (by decide) ?_
          exact w36 1 hf _ _ _ hP hD hS (lv_sub hl [0, 1] rfl)
        refine lv_if_ne (tgt := 31) hx hb dX4_isDead_11 (by decide) (fun c_11 => ?_) (fun c_11 => ?_)
        · have hf := ite_f c_11 hf
          exact w31 () hf _ _ _ hP hD hS (lv_sub hl [0, 2] rfl)
        · have hf := ite_t c_11 hf
          refine lv_aload_n hx hb dX4_isDead_14 rfl (lv_at hl 0 rfl) ?_
          refine lv_iload_n hx hb dX4_isDead_15 rfl (lv_at hl 2 rfl) ?_
          obtain ⟨x16, hy16, hf⟩ := Option.bind_eq_some_iff.mp hf
          refine clV_i (As := [.int v2_4]) (rest := []) (wM cI cZ md mth msz mrn mmy mdf mgu mhs mlv mba mgi mfi mle mst msu mtr mdi mfa mca) ⟨hx, hb, hml, hown, hts⟩ (K_X4_isOpen l D cI cZ md H.size mth msz mrn mmy mdf mgu mhs mlv mba mgi mfi mle mst msu mtr mdi mfa mca v2_4 _ hy16) (cwV 1 hts gX4_isDead_X4_isOpen rfl rfl rfl (by decide +kernel) ⟨Nat.le_of_ble_eq_true rfl, Nat.le_of_ble_eq_true rfl⟩) hK hP hD hS hA hl.1 [0, 1, 2, 3, 4, 5, 6, 7, 8, 9, 10] (by decide) rfl rfl rfl 4 0 rfl rfl rfl rfl rfl (Nat.le_of_ble_eq_true rfl) dX4_isDead_16 ⟨Nat.le_of_ble_eq_true rfl, Nat.le_of_ble_eq_true rfl⟩ (fun H locs hP hD hS => ?_)
          obtain ⟨k35, hk35, hf⟩ := jn_some hf
          have w35 : ∀ (_ : Unit), k35 () = some r → ∀ (H : Heap) (locs : List Loc) (ls : Array Slot), va_P D vwCl (wM cI cZ md mth msz mrn mmy mdf mgu mhs mlv mba mgi mfi mle mst msu mtr mdi mfa mca) H → va_D A (wM cI cZ md mth msz mrn mmy mdf mgu mhs mlv mba mgi mfi mle mst msu mtr mdi mfa mca) → va_S A s.heap H locs → lv_has ls 3 [(0, .ref (md 0)), (2, .int v2_4)] → W p l e rm_X4_isDead s m args below meth c H locs 0 0 Q (F0 m 35 ls []) := by
            intro _ hf H locs ls hP hD hS hl
            rw [hk35] at hf
            try dsimp only at hf
            refine lv_iconst (v := 0) hx hb dX4_isDead_35 (by decide) ?_
            exact w36 0 hf _ _ _ hP hD hS (lv_sub hl [0, 1] rfl)
          refine lv_if_eq (tgt := 35) hx hb dX4_isDead_19 (by decide) (fun c_19 => ?_) (fun c_19 => ?_)
          · have hf := ite_t c_19 hf
            exact w35 () hf _ _ _ hP hD hS (lv_sub hl [0, 2] rfl)
          · have hf := ite_f c_19 hf
            refine lv_aload_n hx hb dX4_isDead_22 rfl (lv_at hl 0 rfl) ?_
            refine va_get (D := D) (ci := 4) (v := .ref (md 10)) (C := RX4) (T := TX4) (N := 18) hx hb hts hinX4 hown hK.1 hP 0 rfl rfl 15 (by decide) (hts (.fieldLink RX4 42 "GridpuzzleModel" "candidates" "[I") (by decide +kernel)) (fun _ h9 => h9) rfl dX4_isDead_23 ?_
            refine lv_iload_n hx hb dX4_isDead_26 rfl (lv_at hl 2 rfl) ?_
            obtain ⟨hz27, hf⟩ := gd_some hf
            refine va_iald hx hb hK.1 hP 10 0 rfl rfl hz27 dX4_isDead_27 ?_
            refine lv_if_ne (tgt := 35) hx hb dX4_isDead_28 (by decide) (fun c_28 => ?_) (fun c_28 => ?_)
            · have hf := ite_f c_28 hf
              exact w35 () hf _ _ _ hP hD hS (lv_sub hl [0, 2] rfl)
            · have hf := ite_t c_28 hf
              exact w31 () hf _ _ _ hP hD hS (lv_sub hl [0, 2] rfl)
  exact l4 N 0 0 hf _ _ _ hP hD hS (lv_sub hl [2, 1, 0] rfl)
def rm_X4_solve : Room := { frames := 4, cells := 0, slots := 0, locals := 86 }
set_option maxRecDepth 100000 in
set_option maxHeartbeats 8000000 in
theorem K_X4_solve (l : Launch) (D : va_G) (cI cZ : ClassId) (md : Nat → Nat) (sz : Nat) (N : Nat) (mth msz mrn mmy mdf mgu mhs mlv : Int32) (mba mgi mfi mle mst msu mtr mdi mfa mca : Nat → Int32) (p1 : Int32) (r : (Int32 × Int32 × (Nat → Int32))) (hf : f_X4_solve N msz mrn mhs mlv mba mgi mfi mle mst msu mca p1 = some r) : Met l yX4_solve wsX4_solve rm_X4_solve (PC D cI cZ sz [.ref (md 0), .int p1] (wM cI cZ md mth msz mrn mmy mdf mgu mhs mlv mba mgi mfi mle mst msu mtr mdi mfa mca)) (QV D cI cZ sz (wM cI cZ md mth msz mrn mmy mdf mgu mhs mlv mba mgi mfi mle mst msu mtr mdi mfa mca) (wM cI cZ md mth msz mrn mmy mdf mgu r.1 r.2.1 mba mgi mfi mle mst msu mtr mdi mfa r.2.2)) 0 0 (va_A (wM cI cZ md mth msz mrn mmy mdf mgu mhs mlv mba mgi mfi mle mst msu mtr mdi mfa mca) sz) := by
  refine mk_v (cc := cX4_solve) (maxL := 3) (lv0 := [(0, .ref (md 0)), (1, .int p1)]) (by decide) rfl (Nat.le_of_ble_eq_true rfl) rfl ?_
  intro p e s m args below meth c ls A Q H hx hb hml hown hts hK hP hD hA hS hl hR
  have hinX4 : ∀ w ∈ wsX40, w ∈ wsX4_solve := by decide +kernel
  rw [f_X4_solve] at hf
  refine lv_aload_n hx hb dX4_solve_0 rfl (lv_at hl 0 rfl) ?_
  refine lv_iconst (v := 0) hx hb dX4_solve_1 (by decide) ?_
  refine va_put (D := D) (ci := 4) (v := .int 0) (ty := .int) (C := RX4) (T := TX4) (N := 18) hx hb hts hinX4 tyX4 tyX4_ok nmX4 hown hK.1 hP hD hS 0 rfl rfl 17 (by decide) (hts (.fieldLink RX4 142 "GridpuzzleModel" "level" "I") (by decide +kernel)) (fun _ h9 => h9) rfl (by decide +kernel) rfl rfl (Nat.le_of_ble_eq_true rfl) dX4_solve_2 (fun H locs hP hD hS => ?_)
  have hP : va_P D vwCl (wM cI cZ md mth msz mrn mmy mdf mgu mhs 0 mba mgi mfi mle mst msu mtr mdi mfa mca) H := hP
  have hD : va_D A (wM cI cZ md mth msz mrn mmy mdf mgu mhs 0 mba mgi mfi mle mst msu mtr mdi mfa mca) := hD
  refine lv_iconst (v := 0) hx hb dX4_solve_5 (by decide) ?_
  refine lv_istore_n (lv' := [(2, .int 0), (0, .ref (md 0)), (1, .int p1)]) hx hb dX4_solve_6 rfl hl (by decide) rfl (fun ls hl => ?_)
  obtain ⟨k60, hk60, hf⟩ := jn_some hf
  have w60 : ∀ (mca_60 : Nat → Int32), k60 mca_60 = some r → ∀ (H : Heap) (locs : List Loc) (ls : Array Slot), va_P D vwCl (wM cI cZ md mth msz mrn mmy mdf mgu mhs 0 mba mgi mfi mle mst msu mtr mdi mfa mca_60) H → va_D A (wM cI cZ md mth msz mrn mmy mdf mgu mhs 0 mba mgi mfi mle mst msu mtr mdi mfa mca_60) → va_S A s.heap H locs → lv_has ls 3 [(0, .ref (md 0)), (1, .int p1)] → W p l e rm_X4_solve s m args below meth c H locs 0 0 Q (F0 m 60 ls []) := by
    intro mca_60 hf H locs ls hP hD hS hl
    rw [hk60] at hf
    try dsimp only at hf
    refine lv_iconst (v := 1) hx hb dX4_solve_60 (by decide) ?_
    refine lv_istore_n (lv' := [(2, .int 1), (0, .ref (md 0)), (1, .int p1)]) hx hb dX4_solve_61 rfl hl (by decide) rfl (fun ls hl => ?_)
    have l62 : ∀ (nn : Nat) (v2_62 : Int32) (mhs_62 : Int32) (mlv_62 : Int32) (mca_62 : Nat → Int32), f_X4_solve_L62 N p1 msz mrn mba mfi mle mst msu nn v2_62 mhs_62 mlv_62 mca_62 = some r → ∀ (H : Heap) (locs : List Loc) (ls : Array Slot), va_P D vwCl (wM cI cZ md mth msz mrn mmy mdf mgu mhs_62 mlv_62 mba mgi mfi mle mst msu mtr mdi mfa mca_62) H → va_D A (wM cI cZ md mth msz mrn mmy mdf mgu mhs_62 mlv_62 mba mgi mfi mle mst msu mtr mdi mfa mca_62) → va_S A s.heap H locs → lv_has ls 3 [(0, .ref (md 0)), (1, .int p1), (2, .int v2_62)] → W p l e rm_X4_solve s m args below meth c H locs 0 0 Q (F0 m 62 ls []) := by
      intro nn
      induction nn with
      | zero => intro _ _ _ _ hf; exact nomatch (show (none : Option _) = some r from hf)
      | succ n62 ih62 =>
        intro v2_62 mhs_62 mlv_62 mca_62 hf H locs ls hP hD hS hl
        rw [f_X4_solve_L62.eq_2] at hf
        refine lv_iload_n hx hb dX4_solve_62 rfl (lv_at hl 2 rfl) ?_
        refine lv_iload_n hx hb dX4_solve_63 rfl (lv_at hl 1 rfl) ?_
        refine lv_icmp_gt (tgt := 153) hx hb dX4_solve_64 (by decide) (fun c_64 => ?_) (fun c_64 => ?_)
        · have hf := ite_t c_64 hf
          cases hf
          exact hR _ _ _ _ _ rfl hP hD hS dX4_solve_153
        · have hf := ite_f c_64 hf
          refine lv_aload_n hx hb dX4_solve_67 rfl (lv_at hl 0 rfl) ?_
          refine lv_iconst (v := 0) hx hb dX4_solve_68 (by decide) ?_
          refine va_put (D := D) (ci := 4) (v := .int 0) (ty := .boolean) (C := RX4) (T := TX4) (N := 18) hx hb hts hinX4 tyX4 tyX4_ok nmX4 hown hK.1 hP hD hS 0 rfl rfl 16 (by decide) (hts (.fieldLink RX4 123 "GridpuzzleModel" "hasTaken" "Z") (by decide +kernel)) (fun _ h9 => h9) rfl (by decide +kernel) rfl rfl (Nat.le_of_ble_eq_true rfl) dX4_solve_69 (fun H locs hP hD hS => ?_)
          have hP : va_P D vwCl (wM cI cZ md mth msz mrn mmy mdf mgu 0 mlv_62 mba mgi mfi mle mst msu mtr mdi mfa mca_62) H := hP
          have hD : va_D A (wM cI cZ md mth msz mrn mmy mdf mgu 0 mlv_62 mba mgi mfi mle mst msu mtr mdi mfa mca_62) := hD
          refine lv_iload_n hx hb dX4_solve_72 rfl (lv_at hl 2 rfl) ?_
          refine lv_iconst (v := 1) hx hb dX4_solve_73 (by decide) ?_
          obtain ⟨k100, hk100, hf⟩ := jn_some hf
          have w100 : ∀ (mhs_100 : Int32) (mca_100 : Nat → Int32), k100 mhs_100 mca_100 = some r → ∀ (H : Heap) (locs : List Loc) (ls : Array Slot), va_P D vwCl (wM cI cZ md mth msz mrn mmy mdf mgu mhs_100 mlv_62 mba mgi mfi mle mst msu mtr mdi mfa mca_100) H → va_D A (wM cI cZ md mth msz mrn mmy mdf mgu mhs_100 mlv_62 mba mgi mfi mle mst msu mtr mdi mfa mca_100) → va_S A s.heap H locs → lv_has ls 3 [(0, .ref (md 0)), (1, .int p1), (2, .int v2_62)] → W p l e rm_X4_solve s m args below meth c H locs 0 0 Q (F0 m 100 ls []) := by
            intro mhs_100 mca_100 hf H locs ls hP hD hS hl
            rw [hk100] at hf
            try dsimp only at hf
            refine lv_aload_n hx hb dX4_solve_100 rfl (lv_at hl 0 rfl) ?_
            refine lv_aload_n hx hb dX4_solve_101 rfl (lv_at hl 0 rfl) ?_
            refine va_get (D := D) (ci := 4) (v := .int mhs_100) (C := RX4) (T := TX4) (N := 18) hx hb hts hinX4 hown hK.1 hP 0 rfl rfl 16 (by decide) (hts (.fieldLink RX4 123 "GridpuzzleModel" "hasTaken" "Z") (by decide +kernel)) (fun _ h9 => h9) rfl dX4_solve_102 ?_
            obtain ⟨k124, hk124, hf⟩ := jn_some hf
            have w124 : ∀ (t0_124 : Int32), k124 t0_124 = some r → ∀ (H : Heap) (locs : List Loc) (ls : Array Slot), va_P D vwCl (wM cI cZ md mth msz mrn mmy mdf mgu mhs_100 mlv_62 mba mgi mfi mle mst msu mtr mdi mfa mca_100) H → va_D A (wM cI cZ md mth msz mrn mmy mdf mgu mhs_100 mlv_62 mba mgi mfi mle mst msu mtr mdi mfa mca_100) → va_S A s.heap H locs → lv_has ls 3 [(0, .ref (md 0)), (1, .int p1), (2, .int v2_62)] → W p l e rm_X4_solve s m args below meth c H locs 0 0 Q (F0 m 124 ls [.int t0_124, .ref (md 0)]) := by
              intro t0_124 hf H locs ls hP hD hS hl
              rw [hk124] at hf
              try dsimp only at hf
              refine va_put (D := D) (ci := 4) (v := .int t0_124) (ty := .int) (C := RX4) (T := TX4) (N := 18) hx hb hts hinX4 tyX4 tyX4_ok nmX4 hown hK.1 hP hD hS 0 rfl rfl 17 (by decide) (hts (.fieldLink RX4 142 "GridpuzzleModel" "level" "I") (by decide +kernel)) (fun _ h9 => h9) rfl (by decide +kernel) rfl rfl (Nat.le_of_ble_eq_true rfl) dX4_solve_124 (fun H locs hP hD hS => ?_)
              have hP : va_P D vwCl (wM cI cZ md mth msz mrn mmy mdf mgu mhs_100 t0_124 mba mgi mfi mle mst msu mtr mdi mfa mca_100) H := hP
              have hD : va_D A (wM cI cZ md mth msz mrn mmy mdf mgu mhs_100 t0_124 mba mgi mfi mle mst msu mtr mdi mfa mca_100) := hD
              refine lv_aload_n hx hb dX4_solve_127 rfl (lv_at hl 0 rfl) ?_
              obtain ⟨x128, hy128, hf⟩ := Option.bind_eq_some_iff.mp hf
              refine clV_i (As := []) (rest := []) (wM cI cZ md mth msz mrn mmy mdf mgu mhs_100 t0_124 mba mgi mfi mle mst msu mtr mdi mfa mca_100) ⟨hx, hb, hml, hown, hts⟩ (K_X4_isDead l D cI cZ md H.size N mth msz mrn mmy mdf mgu mhs_100 t0_124 mba mgi mfi mle mst msu mtr mdi mfa mca_100 _ hy128) (cwV 0 hts gX4_solve_X4_isDead rfl rfl rfl (by decide +kernel) ⟨Nat.le_of_ble_eq_true rfl, Nat.le_of_ble_eq_true rfl⟩) hK hP hD hS hA hl.1 [0, 1, 2, 3, 4, 5, 6, 7, 8, 9, 10] (by decide) rfl rfl rfl 4 0 rfl rfl rfl rfl rfl (Nat.le_of_ble_eq_true rfl) dX4_solve_128 ⟨Nat.le_of_ble_eq_true rfl, Nat.le_of_ble_eq_true rfl⟩ (fun H locs hP hD hS => ?_)
              refine lv_if_eq (tgt := 135) hx hb dX4_solve_131 (by decide) (fun c_131 => ?_) (fun c_131 => ?_)
              · have hf := ite_t c_131 hf
                refine lv_aload_n hx hb dX4_solve_135 rfl (lv_at hl 0 rfl) ?_
                refine va_get (D := D) (ci := 4) (v := .int mhs_100) (C := RX4) (T := TX4) (N := 18) hx hb hts hinX4 hown hK.1 hP 0 rfl rfl 16 (by decide) (hts (.fieldLink RX4 123 "GridpuzzleModel" "hasTaken" "Z") (by decide +kernel)) (fun _ h9 => h9) rfl dX4_solve_136 ?_
                obtain ⟨k149, hk149, hf⟩ := jn_some hf
                have w149 : ∀ (t0_149 : Int32), k149 t0_149 = some r → ∀ (H : Heap) (locs : List Loc) (ls : Array Slot), va_P D vwCl (wM cI cZ md mth msz mrn mmy mdf mgu mhs_100 t0_124 mba mgi mfi mle mst msu mtr mdi mfa mca_100) H → va_D A (wM cI cZ md mth msz mrn mmy mdf mgu mhs_100 t0_124 mba mgi mfi mle mst msu mtr mdi mfa mca_100) → va_S A s.heap H locs → lv_has ls 3 [(0, .ref (md 0)), (1, .int p1)] → W p l e rm_X4_solve s m args below meth c H locs 0 0 Q (F0 m 149 ls [.int t0_149]) := by
                  intro t0_149 hf H locs ls hP hD hS hl
                  rw [hk149] at hf
                  try dsimp only at hf
                  refine lv_istore_n (lv' := [(2, .int t0_149), (0, .ref (md 0)), (1, .int p1)]) hx hb dX4_solve_149 rfl hl (by decide) rfl (fun ls hl => ?_)
                  refine lv_goto (tgt := 62) hx hb dX4_solve_150 (by decide) ?_
                  exact ih62 t0_149 mhs_100 t0_124 mca_100 hf _ _ _ hP hD hS (lv_sub hl [1, 2, 0] rfl)
                refine lv_if_eq (tgt := 146) hx hb dX4_solve_139 (by decide) (fun c_139 => ?_) (fun c_139 => ?_)
                · have hf := ite_t c_139 hf
                  refine lv_iload_n hx hb dX4_solve_146 rfl (lv_at hl 2 rfl) ?_
                  refine lv_iconst (v := 1) hx hb dX4_solve_147 (by decide) ?_
                  refine lv_iadd hx hb dX4_solve_148 ?_
                  exact w149 (v2_62 + 1) hf _ _ _ hP hD hS (lv_sub hl [0, 1] rfl)
                · have hf := ite_f c_139 hf
                  refine lv_iconst (v := 1) hx hb dX4_solve_142 (by decide) ?_
                  refine lv_goto (tgt := 149) hx hb dX4_solve_143 (by decide) ?_
                  exact w149 1 hf _ _ _ hP hD hS (lv_sub hl [0, 1] rfl)
              · have hf := ite_f c_131 hf
                cases hf
                exact hR _ _ _ _ _ rfl hP hD hS dX4_solve_134
            obtain ⟨k120, hk120, hf⟩ := jn_some hf
            have w120 : ∀ (_ : Unit), k120 () = some r → ∀ (H : Heap) (locs : List Loc) (ls : Array Slot), va_P D vwCl (wM cI cZ md mth msz mrn mmy mdf mgu mhs_100 mlv_62 mba mgi mfi mle mst msu mtr mdi mfa mca_100) H → va_D A (wM cI cZ md mth msz mrn mmy mdf mgu mhs_100 mlv_62 mba mgi mfi mle mst msu mtr mdi mfa mca_100) → va_S A s.heap H locs → lv_has ls 3 [(0, .ref (md 0)), (1, .int p1), (2, .int v2_62)] → W p l e rm_X4_solve s m args below meth c H locs 0 0 Q (F0 m 120 ls [.ref (md 0)]) := by
              intro _ hf H locs ls hP hD hS hl
              rw [hk120] at hf
              try dsimp only at hf
              refine lv_aload_n hx hb dX4_solve_120 rfl (lv_at hl 0 rfl) ?_
              refine va_get (D := D) (ci := 4) (v := .int mlv_62) (C := RX4) (T := TX4) (N := 18) hx hb hts hinX4 hown hK.1 hP 0 rfl rfl 17 (by decide) (hts (.fieldLink RX4 142 "GridpuzzleModel" "level" "I") (by decide +kernel)) (fun _ h9 => h9) rfl dX4_solve_121 ?_
              exact w124 mlv_62 hf _ _ _ hP hD hS (lv_sub hl [0, 1, 2] rfl)
            refine lv_if_eq (tgt := 120) hx hb dX4_solve_105 (by decide) (fun c_105 => ?_) (fun c_105 => ?_)
            · have hf := ite_t c_105 hf
              exact w120 () hf _ _ _ hP hD hS (lv_sub hl [0, 1, 2] rfl)
            · have hf := ite_f c_105 hf
              refine lv_iload_n hx hb dX4_solve_108 rfl (lv_at hl 2 rfl) ?_
              refine lv_aload_n hx hb dX4_solve_109 rfl (lv_at hl 0 rfl) ?_
              refine va_get (D := D) (ci := 4) (v := .int mlv_62) (C := RX4) (T := TX4) (N := 18) hx hb hts hinX4 hown hK.1 hP 0 rfl rfl 17 (by decide) (hts (.fieldLink RX4 142 "GridpuzzleModel" "level" "I") (by decide +kernel)) (fun _ h9 => h9) rfl dX4_solve_110 ?_
              refine lv_icmp_le (tgt := 120) hx hb dX4_solve_113 (by decide) (fun c_113 => ?_) (fun c_113 => ?_)
              · have hf := ite_t c_113 hf
                exact w120 () hf _ _ _ hP hD hS (lv_sub hl [0, 1, 2] rfl)
              · have hf := ite_f c_113 hf
                refine lv_iload_n hx hb dX4_solve_116 rfl (lv_at hl 2 rfl) ?_
                refine lv_goto (tgt := 124) hx hb dX4_solve_117 (by decide) ?_
                exact w124 v2_62 hf _ _ _ hP hD hS (lv_sub hl [0, 1, 2] rfl)
          refine lv_icmp_ne (tgt := 84) hx hb dX4_solve_74 (by decide) (fun c_74 => ?_) (fun c_74 => ?_)
          · have hf := ite_f c_74 hf
            refine lv_iload_n hx hb dX4_solve_84 rfl (lv_at hl 2 rfl) ?_
            refine lv_iconst (v := 2) hx hb dX4_solve_85 (by decide) ?_
            refine lv_icmp_ne (tgt := 96) hx hb dX4_solve_86 (by decide) (fun c_86 => ?_) (fun c_86 => ?_)
            · have hf := ite_f c_86 hf
              refine lv_aload_n hx hb dX4_solve_96 rfl (lv_at hl 0 rfl) ?_
              obtain ⟨x97, hy97, hf⟩ := Option.bind_eq_some_iff.mp hf
              refine clV_v (As := []) (rest := []) (wM cI cZ md mth msz mrn mmy mdf mgu x97.1 mlv_62 mba mgi mfi mle mst msu mtr mdi mfa x97.2) ⟨hx, hb, hml, hown, hts⟩ (K_X4_goThroughRows l D cI cZ md H.size N mth msz mrn mmy mdf mgu 0 mlv_62 mba mgi mfi mle mst msu mtr mdi mfa mca_62 _ hy97) (cwV 0 hts gX4_solve_X4_goThroughRows rfl rfl rfl (by decide +kernel) ⟨Nat.le_of_ble_eq_true rfl, Nat.le_of_ble_eq_true rfl⟩) hK hP hD hS hA hl.1 [0, 1, 2, 3, 4, 5, 6, 7, 8, 9, 10] (by decide) rfl rfl rfl 4 0 rfl rfl rfl rfl rfl (Nat.le_of_ble_eq_true rfl) dX4_solve_97 ⟨Nat.le_of_ble_eq_true rfl, Nat.le_of_ble_eq_true rfl⟩ (fun H locs hP hD hS => ?_)
              exact w100 x97.1 x97.2 hf _ _ _ hP hD hS (lv_sub hl [0, 1, 2] rfl)
            · have hf := ite_t c_86 hf
              refine lv_aload_n hx hb dX4_solve_89 rfl (lv_at hl 0 rfl) ?_
              obtain ⟨x90, hy90, hf⟩ := Option.bind_eq_some_iff.mp hf
              refine clV_v (As := []) (rest := []) (wM cI cZ md mth msz mrn mmy mdf mgu x90.1 mlv_62 mba mgi mfi mle mst msu mtr mdi mfa x90.2) ⟨hx, hb, hml, hown, hts⟩ (K_X4_goThroughSets l D cI cZ md H.size N mth msz mrn mmy mdf mgu 0 mlv_62 mba mgi mfi mle mst msu mtr mdi mfa mca_62 _ hy90) (cwV 0 hts gX4_solve_X4_goThroughSets rfl rfl rfl (by decide +kernel) ⟨Nat.le_of_ble_eq_true rfl, Nat.le_of_ble_eq_true rfl⟩) hK hP hD hS hA hl.1 [0, 1, 2, 3, 4, 5, 6, 7, 8, 9, 10] (by decide) rfl rfl rfl 4 0 rfl rfl rfl rfl rfl (Nat.le_of_ble_eq_true rfl) dX4_solve_90 ⟨Nat.le_of_ble_eq_true rfl, Nat.le_of_ble_eq_true rfl⟩ (fun H locs hP hD hS => ?_)
              refine lv_goto (tgt := 100) hx hb dX4_solve_93 (by decide) ?_
              exact w100 x90.1 x90.2 hf _ _ _ hP hD hS (lv_sub hl [0, 1, 2] rfl)
          · have hf := ite_t c_74 hf
            refine lv_aload_n hx hb dX4_solve_77 rfl (lv_at hl 0 rfl) ?_
            obtain ⟨x78, hy78, hf⟩ := Option.bind_eq_some_iff.mp hf
            refine clV_v (As := []) (rest := []) (wM cI cZ md mth msz mrn mmy mdf mgu x78.1 mlv_62 mba mgi mfi mle mst msu mtr mdi mfa x78.2) ⟨hx, hb, hml, hown, hts⟩ (K_X4_goThroughSingles l D cI cZ md H.size N mth msz mrn mmy mdf mgu 0 mlv_62 mba mgi mfi mle mst msu mtr mdi mfa mca_62 _ hy78) (cwV 0 hts gX4_solve_X4_goThroughSingles rfl rfl rfl (by decide +kernel) ⟨Nat.le_of_ble_eq_true rfl, Nat.le_of_ble_eq_true rfl⟩) hK hP hD hS hA hl.1 [0, 1, 2, 3, 4, 5, 6, 7, 8, 9, 10] (by decide) rfl rfl rfl 4 0 rfl rfl rfl rfl rfl (Nat.le_of_ble_eq_true rfl) dX4_solve_78 ⟨Nat.le_of_ble_eq_true rfl, Nat.le_of_ble_eq_true rfl⟩ (fun H locs hP hD hS => ?_)
            refine lv_goto (tgt := 100) hx hb dX4_solve_81 (by decide) ?_
            exact w100 x78.1 x78.2 hf _ _ _ hP hD hS (lv_sub hl [0, 1, 2] rfl)
    exact l62 N 1 mhs 0 mca_60 hf _ _ _ hP hD hS (lv_sub hl [1, 2, 0] rfl)
  have l7 : ∀ (nn : Nat) (v2_7 : Int32) (mca_7 : Nat → Int32), f_X4_solve_L7 msz mba mgi k60 nn v2_7 mca_7 = some r → ∀ (H : Heap) (locs : List Loc) (ls : Array Slot), va_P D vwCl (wM cI cZ md mth msz mrn mmy mdf mgu mhs 0 mba mgi mfi mle mst msu mtr mdi mfa mca_7) H → va_D A (wM cI cZ md mth msz mrn mmy mdf mgu mhs 0 mba mgi mfi mle mst msu mtr mdi mfa mca_7) → va_S A s.heap H locs → lv_has ls 3 [(0, .ref (md 0)), (1, .int p1), (2, .int v2_7)] → W p l e rm_X4_solve s m args below meth c H locs 0 0 Q (F0 m 7 ls []) := by
    intro nn
    induction nn with
    | zero => intro _ _ hf; exact nomatch (show (none : Option _) = some r from hf)
    | succ n7 ih7 =>
      intro v2_7 mca_7 hf H locs ls hP hD hS hl
      rw [f_X4_solve_L7.eq_2] at hf
      refine lv_iload_n hx hb dX4_solve_7 rfl (lv_at hl 2 rfl) ?_
      refine lv_bipush (v := 16) hx hb dX4_solve_8 (by decide) ?_
      refine lv_icmp_ge (tgt := 60) hx hb dX4_solve_10 (by decide) (fun c_10 => ?_) (fun c_10 => ?_)
      · have hf := ite_t c_10 hf
        exact w60 mca_7 hf _ _ _ hP hD hS (lv_sub hl [0, 1] rfl)
      · have hf := ite_f c_10 hf
        refine lv_aload_n hx hb dX4_solve_13 rfl (lv_at hl 0 rfl) ?_
        refine va_get (D := D) (ci := 4) (v := .ref (md 10)) (C := RX4) (T := TX4) (N := 18) hx hb hts hinX4 hown hK.1 hP 0 rfl rfl 15 (by decide) (hts (.fieldLink RX4 42 "GridpuzzleModel" "candidates" "[I") (by decide +kernel)) (fun _ h9 => h9) rfl dX4_solve_14 ?_
        refine lv_iload_n hx hb dX4_solve_17 rfl (lv_at hl 2 rfl) ?_
        refine lv_aload_n hx hb dX4_solve_18 rfl (lv_at hl 0 rfl) ?_
        refine lv_iload_n hx hb dX4_solve_19 rfl (lv_at hl 2 rfl) ?_
        obtain ⟨x20, hy20, hf⟩ := Option.bind_eq_some_iff.mp hf
        refine clV_i (As := [.int v2_7]) (rest := [.int v2_7, .ref (md 10)]) (wM cI cZ md mth msz mrn mmy mdf mgu mhs 0 mba mgi mfi mle mst msu mtr mdi mfa mca_7) ⟨hx, hb, hml, hown, hts⟩ (K_X4_isOpen l D cI cZ md H.size mth msz mrn mmy mdf mgu mhs 0 mba mgi mfi mle mst msu mtr mdi mfa mca_7 v2_7 _ hy20) (cwV 1 hts gX4_solve_X4_isOpen rfl rfl rfl (by decide +kernel) ⟨Nat.le_of_ble_eq_true rfl, Nat.le_of_ble_eq_true rfl⟩) hK hP hD hS hA hl.1 [0, 1, 2, 3, 4, 5, 6, 7, 8, 9, 10] (by decide) rfl rfl rfl 4 0 rfl rfl rfl rfl rfl (Nat.le_of_ble_eq_true rfl) dX4_solve_20 ⟨Nat.le_of_ble_eq_true rfl, Nat.le_of_ble_eq_true rfl⟩ (fun H locs hP hD hS => ?_)
        obtain ⟨k53, hk53, hf⟩ := jn_some hf
        have w53 : ∀ (t0_53 : Int32), k53 t0_53 = some r → ∀ (H : Heap) (locs : List Loc) (ls : Array Slot), va_P D vwCl (wM cI cZ md mth msz mrn mmy mdf mgu mhs 0 mba mgi mfi mle mst msu mtr mdi mfa mca_7) H → va_D A (wM cI cZ md mth msz mrn mmy mdf mgu mhs 0 mba mgi mfi mle mst msu mtr mdi mfa mca_7) → va_S A s.heap H locs → lv_has ls 3 [(0, .ref (md 0)), (1, .int p1), (2, .int v2_7)] → W p l e rm_X4_solve s m args below meth c H locs 0 0 Q (F0 m 53 ls [.int t0_53, .int v2_7, .ref (md 10)]) := by
          intro t0_53 hf H locs ls hP hD hS hl
          rw [hk53] at hf
          try dsimp only at hf
          obtain ⟨hz53, hf⟩ := gd_some hf
          refine va_iast hx hb hK.1 hP hD hS 10 0 rfl rfl hz53 dX4_solve_53 (fun H locs hP hD hS => ?_)
          have hP : va_P D vwCl (wM cI cZ md mth msz mrn mmy mdf mgu mhs 0 mba mgi mfi mle mst msu mtr mdi mfa (upd mca_7 ((v2_7 : Int32)).toNatClampNeg t0_53)) H := hP
          have hD : va_D A (wM cI cZ md mth msz mrn mmy mdf mgu mhs 0 mba mgi mfi mle mst msu mtr mdi mfa (upd mca_7 ((v2_7 : Int32)).toNatClampNeg t0_53)) := hD
          refine lv_iinc (v := (v2_7 + 1)) (lv' := [(2, .int (v2_7 + 1)), (0, .ref (md 0)), (1, .int p1)]) hx hb dX4_solve_54 hl (k := 2) rfl rfl (by decide) rfl (fun ls hl => ?_)
          refine lv_goto (tgt := 7) hx hb dX4_solve_57 (by decide) ?_
          exact ih7 (v2_7 + 1) (upd mca_7 ((v2_7 : Int32)).toNatClampNeg t0_53) hf _ _ _ hP hD hS (lv_sub hl [1, 2, 0] rfl)
        refine lv_if_ne (tgt := 30) hx hb dX4_solve_23 (by decide) (fun c_23 => ?_) (fun c_23 => ?_)
        · have hf := ite_f c_23 hf
          refine lv_aload_n hx hb dX4_solve_30 rfl (lv_at hl 0 rfl) ?_
          refine va_get (D := D) (ci := 4) (v := .ref (md 2)) (C := RX4) (T := TX4) (N := 18) hx hb hts hinX4 hown hK.1 hP 0 rfl rfl 3 (by decide) (hts (.fieldLink RX4 17 "GridpuzzleModel" "given" "[I") (by decide +kernel)) (fun _ h9 => h9) rfl dX4_solve_31 ?_
          refine lv_iload_n hx hb dX4_solve_34 rfl (lv_at hl 2 rfl) ?_
          obtain ⟨hz35, hf⟩ := gd_some hf
          refine va_iald hx hb hK.1 hP 2 0 rfl rfl hz35 dX4_solve_35 ?_
          refine lv_if_le (tgt := 50) hx hb dX4_solve_36 (by decide) (fun c_36 => ?_) (fun c_36 => ?_)
          · have hf := ite_t c_36 hf
            refine lv_sipush (v := 1022) hx hb dX4_solve_50 (by decide) ?_
            exact w53 1022 hf _ _ _ hP hD hS (lv_sub hl [0, 1, 2] rfl)
          · have hf := ite_f c_36 hf
            refine lv_iconst (v := 1) hx hb dX4_solve_39 (by decide) ?_
            refine lv_aload_n hx hb dX4_solve_40 rfl (lv_at hl 0 rfl) ?_
            refine va_get (D := D) (ci := 4) (v := .ref (md 2)) (C := RX4) (T := TX4) (N := 18) hx hb hts hinX4 hown hK.1 hP 0 rfl rfl 3 (by decide) (hts (.fieldLink RX4 17 "GridpuzzleModel" "given" "[I") (by decide +kernel)) (fun _ h9 => h9) rfl dX4_solve_41 ?_
            refine lv_iload_n hx hb dX4_solve_44 rfl (lv_at hl 2 rfl) ?_
            obtain ⟨hz45, hf⟩ := gd_some hf
            refine va_iald hx hb hK.1 hP 2 0 rfl rfl hz45 dX4_solve_45 ?_
            refine lv_ishl hx hb dX4_solve_46 ?_
            refine lv_goto (tgt := 53) hx hb dX4_solve_47 (by decide) ?_
            exact w53 (1 <<< ((mgi ((v2_7 : Int32)).toNatClampNeg) &&& 31)) hf _ _ _ hP hD hS (lv_sub hl [0, 1, 2] rfl)
        · have hf := ite_t c_23 hf
          refine lv_iconst (v := 0) hx hb dX4_solve_26 (by decide) ?_
          refine lv_goto (tgt := 53) hx hb dX4_solve_27 (by decide) ?_
          exact w53 0 hf _ _ _ hP hD hS (lv_sub hl [0, 1, 2] rfl)
  exact l7 N 0 mca hf _ _ _ hP hD hS (lv_sub hl [1, 2, 0] rfl)
def rm_X4_level : Room := { frames := 5, cells := 0, slots := 0, locals := 108 }
set_option maxRecDepth 100000 in
set_option maxHeartbeats 8000000 in
theorem K_X4_level (l : Launch) (D : va_G) (cI cZ : ClassId) (md : Nat → Nat) (sz : Nat) (N : Nat) (mth msz mrn mmy mdf mgu mhs mlv : Int32) (mba mgi mfi mle mst msu mtr mdi mfa mca : Nat → Int32) (r : (Int32 × Int32 × Int32 × Int32 × (Nat → Int32))) (hf : f_X4_level N mth msz mrn mhs mlv mba mgi mfi mle mst msu mca = some r) : Met l yX4_level wsX4_level rm_X4_level (PC D cI cZ sz [.ref (md 0)] (wM cI cZ md mth msz mrn mmy mdf mgu mhs mlv mba mgi mfi mle mst msu mtr mdi mfa mca)) (QI D cI cZ sz (wM cI cZ md mth msz mrn mmy mdf mgu mhs mlv mba mgi mfi mle mst msu mtr mdi mfa mca) r.1 (wM cI cZ md r.2.1 msz mrn mmy mdf mgu r.2.2.1 r.2.2.2.1 mba mgi mfi mle mst msu mtr mdi mfa r.2.2.2.2)) 0 0 (va_A (wM cI cZ md mth msz mrn mmy mdf mgu mhs mlv mba mgi mfi mle mst msu mtr mdi mfa mca) sz) := by
  refine mk_i (cc := cX4_level) (maxL := 2) (lv0 := [(0, .ref (md 0))]) (by decide) rfl (Nat.le_of_ble_eq_true rfl) rfl ?_
  intro p e s m args below meth c ls A Q H hx hb hml hown hts hK hP hD hA hS hl hR
  have hinX4 : ∀ w ∈ wsX40, w ∈ wsX4_level := by decide +kernel
  rw [f_X4_level] at hf
  refine lv_aload_n hx hb dX4_level_0 rfl (lv_at hl 0 rfl) ?_
  refine lv_iconst (v := 0) hx hb dX4_level_1 (by decide) ?_
  refine va_put (D := D) (ci := 4) (v := .int 0) (ty := .int) (C := RX4) (T := TX4) (N := 18) hx hb hts hinX4 tyX4 tyX4_ok nmX4 hown hK.1 hP hD hS 0 rfl rfl 0 (by decide) (hts (.fieldLink RX4 48 "GridpuzzleModel" "thrown" "I") (by decide +kernel)) (fun _ h9 => h9) rfl (by decide +kernel) rfl rfl (Nat.le_of_ble_eq_true rfl) dX4_level_2 (fun H locs hP hD hS => ?_)
  have hP : va_P D vwCl (wM cI cZ md 0 msz mrn mmy mdf mgu mhs mlv mba mgi mfi mle mst msu mtr mdi mfa mca) H := hP
  have hD : va_D A (wM cI cZ md 0 msz mrn mmy mdf mgu mhs mlv mba mgi mfi mle mst msu mtr mdi mfa mca) := hD
  refine lv_aload_n hx hb dX4_level_5 rfl (lv_at hl 0 rfl) ?_
  refine lv_iconst (v := 3) hx hb dX4_level_6 (by decide) ?_
  obtain ⟨x7, hy7, hf⟩ := Option.bind_eq_some_iff.mp hf
  refine clV_v (As := [.int 3]) (rest := []) (wM cI cZ md 0 msz mrn mmy mdf mgu x7.1 x7.2.1 mba mgi mfi mle mst msu mtr mdi mfa x7.2.2) ⟨hx, hb, hml, hown, hts⟩ (K_X4_solve l D cI cZ md H.size N 0 msz mrn mmy mdf mgu mhs mlv mba mgi mfi mle mst msu mtr mdi mfa mca 3 _ hy7) (cwV 1 hts gX4_level_X4_solve rfl rfl rfl (by decide +kernel) ⟨Nat.le_of_ble_eq_true rfl, Nat.le_of_ble_eq_true rfl⟩) hK hP hD hS hA hl.1 [0, 1, 2, 3, 4, 5, 6, 7, 8, 9, 10] (by decide) rfl rfl rfl 4 0 rfl rfl rfl rfl rfl (Nat.le_of_ble_eq_true rfl) dX4_level_7 ⟨Nat.le_of_ble_eq_true rfl, Nat.le_of_ble_eq_true rfl⟩ (fun H locs hP hD hS => ?_)
  refine lv_iconst (v := 0) hx hb dX4_level_10 (by decide) ?_
  refine lv_istore_n (lv' := [(1, .int 0), (0, .ref (md 0))]) hx hb dX4_level_11 rfl hl (by decide) rfl (fun ls hl => ?_)
  have l12 : ∀ (nn : Nat) (v1_12 : Int32), f_X4_level_L12 0 msz x7.1 x7.2.1 mba x7.2.2 nn v1_12 = some r → ∀ (H : Heap) (locs : List Loc) (ls : Array Slot), va_P D vwCl (wM cI cZ md 0 msz mrn mmy mdf mgu x7.1 x7.2.1 mba mgi mfi mle mst msu mtr mdi mfa x7.2.2) H → va_D A (wM cI cZ md 0 msz mrn mmy mdf mgu x7.1 x7.2.1 mba mgi mfi mle mst msu mtr mdi mfa x7.2.2) → va_S A s.heap H locs → lv_has ls 2 [(0, .ref (md 0)), (1, .int v1_12)] → W p l e rm_X4_level s m args below meth c H locs 0 0 Q (F0 m 12 ls []) := by
    intro nn
    induction nn with
    | zero => intro _ hf; exact nomatch (show (none : Option _) = some r from hf)
    | succ n12 ih12 =>
      intro v1_12 hf H locs ls hP hD hS hl
      rw [f_X4_level_L12.eq_2] at hf
      refine lv_iload_n hx hb dX4_level_12 rfl (lv_at hl 1 rfl) ?_
      refine lv_bipush (v := 16) hx hb dX4_level_13 (by decide) ?_
      refine lv_icmp_ge (tgt := 46) hx hb dX4_level_15 (by decide) (fun c_15 => ?_) (fun c_15 => ?_)
      · have hf := ite_t c_15 hf
        refine lv_aload_n hx hb dX4_level_46 rfl (lv_at hl 0 rfl) ?_
        refine va_get (D := D) (ci := 4) (v := .int x7.2.1) (C := RX4) (T := TX4) (N := 18) hx hb hts hinX4 hown hK.1 hP 0 rfl rfl 17 (by decide) (hts (.fieldLink RX4 142 "GridpuzzleModel" "level" "I") (by decide +kernel)) (fun _ h9 => h9) rfl dX4_level_47 ?_
        cases hf
        exact hR _ _ _ _ _ _ rfl rfl hP hD hS dX4_level_50
      · have hf := ite_f c_15 hf
        refine lv_aload_n hx hb dX4_level_18 rfl (lv_at hl 0 rfl) ?_
        refine lv_iload_n hx hb dX4_level_19 rfl (lv_at hl 1 rfl) ?_
        obtain ⟨x20, hy20, hf⟩ := Option.bind_eq_some_iff.mp hf
        refine clV_i (As := [.int v1_12]) (rest := []) (wM cI cZ md 0 msz mrn mmy mdf mgu x7.1 x7.2.1 mba mgi mfi mle mst msu mtr mdi mfa x7.2.2) ⟨hx, hb, hml, hown, hts⟩ (K_X4_isOpen l D cI cZ md H.size 0 msz mrn mmy mdf mgu x7.1 x7.2.1 mba mgi mfi mle mst msu mtr mdi mfa x7.2.2 v1_12 _ hy20) (cwV 1 hts gX4_level_X4_isOpen rfl rfl rfl (by decide +kernel) ⟨Nat.le_of_ble_eq_true rfl, Nat.le_of_ble_eq_true rfl⟩) hK hP hD hS hA hl.1 [0, 1, 2, 3, 4, 5, 6, 7, 8, 9, 10] (by decide) rfl rfl rfl 4 0 rfl rfl rfl rfl rfl (Nat.le_of_ble_eq_true rfl) dX4_level_20 ⟨Nat.le_of_ble_eq_true rfl, Nat.le_of_ble_eq_true rfl⟩ (fun H locs hP hD hS => ?_)
        obtain ⟨k40, hk40, hf⟩ := jn_some hf
        have w40 : ∀ (_ : Unit), k40 () = some r → ∀ (H : Heap) (locs : List Loc) (ls : Array Slot), va_P D vwCl (wM cI cZ md 0 msz mrn mmy mdf mgu x7.1 x7.2.1 mba mgi mfi mle mst msu mtr mdi mfa x7.2.2) H → va_D A (wM cI cZ md 0 msz mrn mmy mdf mgu x7.1 x7.2.1 mba mgi mfi mle mst msu mtr mdi mfa x7.2.2) → va_S A s.heap H locs → lv_has ls 2 [(0, .ref (md 0)), (1, .int v1_12)] → W p l e rm_X4_level s m args below meth c H locs 0 0 Q (F0 m 40 ls []) := by
          intro _ hf H locs ls hP hD hS hl
          rw [hk40] at hf
          try dsimp only at hf
          refine lv_iinc (v := (v1_12 + 1)) (lv' := [(1, .int (v1_12 + 1)), (0, .ref (md 0))]) hx hb dX4_level_40 hl (k := 1) rfl rfl (by decide) rfl (fun ls hl => ?_)
          refine lv_goto (tgt := 12) hx hb dX4_level_43 (by decide) ?_
          exact ih12 (v1_12 + 1) hf _ _ _ hP hD hS (lv_sub hl [1, 0] rfl)
        refine lv_if_eq (tgt := 40) hx hb dX4_level_23 (by decide) (fun c_23 => ?_) (fun c_23 => ?_)
        · have hf := ite_t c_23 hf
          exact w40 () hf _ _ _ hP hD hS (lv_sub hl [0, 1] rfl)
        · have hf := ite_f c_23 hf
          refine lv_aload_n hx hb dX4_level_26 rfl (lv_at hl 0 rfl) ?_
          refine va_get (D := D) (ci := 4) (v := .ref (md 10)) (C := RX4) (T := TX4) (N := 18) hx hb hts hinX4 hown hK.1 hP 0 rfl rfl 15 (by decide) (hts (.fieldLink RX4 42 "GridpuzzleModel" "candidates" "[I") (by decide +kernel)) (fun _ h9 => h9) rfl dX4_level_27 ?_
          refine lv_iload_n hx hb dX4_level_30 rfl (lv_at hl 1 rfl) ?_
          obtain ⟨hz31, hf⟩ := gd_some hf
          refine va_iald hx hb hK.1 hP 10 0 rfl rfl hz31 dX4_level_31 ?_
          refine clS_i (As := [.int (x7.2.2 ((v1_12 : Int32)).toNatClampNeg)]) (rest := []) (wM cI cZ md 0 msz mrn mmy mdf mgu x7.1 x7.2.1 mba mgi mfi mle mst msu mtr mdi mfa x7.2.2) ⟨hx, hb, hml, hown, hts⟩ (K_X4_isSingle l D cI cZ H.size  (x7.2.2 ((v1_12 : Int32)).toNatClampNeg) _ rfl) (va_cwS 1 hts gX4_level_X4_isSingle rfl rfl rfl (by decide +kernel) ⟨Nat.le_of_ble_eq_true rfl, Nat.le_of_ble_eq_true rfl⟩) hK hP hD hS hA hl.1 [] (by decide) rfl rfl rfl rfl rfl (Nat.le_of_ble_eq_true rfl) dX4_level_32 ⟨Nat.le_of_ble_eq_true rfl, Nat.le_of_ble_eq_true rfl⟩ (fun H locs hP hD hS => ?_)
          refine lv_if_ne (tgt := 40) hx hb dX4_level_35 (by decide) (fun c_35 => ?_) (fun c_35 => ?_)
          · have hf := ite_f c_35 hf
            exact w40 () hf _ _ _ hP hD hS (lv_sub hl [0, 1] rfl)
          · have hf := ite_t c_35 hf
            refine lv_iconst (v := (-1)) hx hb dX4_level_38 (by decide) ?_
            cases hf
            exact hR _ _ _ _ _ _ rfl rfl hP hD hS dX4_level_39
  exact l12 N 0 hf _ _ _ hP hD hS (lv_sub hl [1, 0] rfl)
def rm_X4_candidates : Room := { frames := 5, cells := 0, slots := 0, locals := 108 }
set_option maxRecDepth 100000 in
set_option maxHeartbeats 8000000 in
theorem K_X4_candidates (l : Launch) (D : va_G) (cI cZ : ClassId) (md : Nat → Nat) (sz : Nat) (N : Nat) (mth msz mrn mmy mdf mgu mhs mlv : Int32) (mba mgi mfi mle mst msu mtr mdi mfa mca : Nat → Int32) (p1 : Int32) (p2 : Int32) (r : (Int32 × Int32 × Int32 × Int32 × (Nat → Int32))) (hf : f_X4_candidates N mth msz mrn mhs mlv mba mgi mfi mle mst msu mca p1 p2 = some r) : Met l yX4_candidates wsX4_candidates rm_X4_candidates (PC D cI cZ sz [.ref (md 0), .int p1, .int p2] (wM cI cZ md mth msz mrn mmy mdf mgu mhs mlv mba mgi mfi mle mst msu mtr mdi mfa mca)) (QI D cI cZ sz (wM cI cZ md mth msz mrn mmy mdf mgu mhs mlv mba mgi mfi mle mst msu mtr mdi mfa mca) r.1 (wM cI cZ md r.2.1 msz mrn mmy mdf mgu r.2.2.1 r.2.2.2.1 mba mgi mfi mle mst msu mtr mdi mfa r.2.2.2.2)) 0 0 (va_A (wM cI cZ md mth msz mrn mmy mdf mgu mhs mlv mba mgi mfi mle mst msu mtr mdi mfa mca) sz) := by
  refine mk_i (cc := cX4_candidates) (maxL := 3) (lv0 := [(0, .ref (md 0)), (1, .int p1), (2, .int p2)]) (by decide) rfl (Nat.le_of_ble_eq_true rfl) rfl ?_
  intro p e s m args below meth c ls A Q H hx hb hml hown hts hK hP hD hA hS hl hR
  have hinX4 : ∀ w ∈ wsX40, w ∈ wsX4_candidates := by decide +kernel
  rw [f_X4_candidates] at hf
  refine lv_aload_n hx hb dX4_candidates_0 rfl (lv_at hl 0 rfl) ?_
  refine lv_aload_n hx hb dX4_candidates_1 rfl (lv_at hl 0 rfl) ?_
  refine lv_iload_n hx hb dX4_candidates_2 rfl (lv_at hl 1 rfl) ?_
  refine clV_i (As := [.int p1]) (rest := [.ref (md 0)]) (wM cI cZ md mth msz mrn mmy mdf mgu mhs mlv mba mgi mfi mle mst msu mtr mdi mfa mca) ⟨hx, hb, hml, hown, hts⟩ (K_X4_isCell l D cI cZ md H.size mth msz mrn mmy mdf mgu mhs mlv mba mgi mfi mle mst msu mtr mdi mfa mca p1 _ rfl) (cwV 1 hts gX4_candidates_X4_isCell rfl rfl rfl (by decide +kernel) ⟨Nat.le_of_ble_eq_true rfl, Nat.le_of_ble_eq_true rfl⟩) hK hP hD hS hA hl.1 [0, 1, 2, 3, 4, 5, 6, 7, 8, 9, 10] (by decide) rfl rfl rfl 4 0 rfl rfl rfl rfl rfl (Nat.le_of_ble_eq_true rfl) dX4_candidates_3 ⟨Nat.le_of_ble_eq_true rfl, Nat.le_of_ble_eq_true rfl⟩ (fun H locs hP hD hS => ?_)
  obtain ⟨k27, hk27, hf⟩ := jn_some hf
  have w27 : ∀ (t0_27 : Int32), k27 t0_27 = some r → ∀ (H : Heap) (locs : List Loc) (ls : Array Slot), va_P D vwCl (wM cI cZ md mth msz mrn mmy mdf mgu mhs mlv mba mgi mfi mle mst msu mtr mdi mfa mca) H → va_D A (wM cI cZ md mth msz mrn mmy mdf mgu mhs mlv mba mgi mfi mle mst msu mtr mdi mfa mca) → va_S A s.heap H locs → lv_has ls 3 [(0, .ref (md 0)), (1, .int p1), (2, .int p2)] → W p l e rm_X4_candidates s m args below meth c H locs 0 0 Q (F0 m 27 ls [.int t0_27, .ref (md 0)]) := by
    intro t0_27 hf H locs ls hP hD hS hl
    rw [hk27] at hf
    try dsimp only at hf
    obtain ⟨x27, hy27, hf⟩ := jn_some hf
    refine clV_i (As := [.int t0_27]) (rest := []) (wM cI cZ md x27.2 msz mrn mmy mdf mgu mhs mlv mba mgi mfi mle mst msu mtr mdi mfa mca) ⟨hx, hb, hml, hown, hts⟩ (K_X4_goesWell l D cI cZ md H.size mth msz mrn mmy mdf mgu mhs mlv mba mgi mfi mle mst msu mtr mdi mfa mca t0_27 _ hy27.symm) (cwV 1 hts gX4_candidates_X4_goesWell rfl rfl rfl (by decide +kernel) ⟨Nat.le_of_ble_eq_true rfl, Nat.le_of_ble_eq_true rfl⟩) hK hP hD hS hA hl.1 [0, 1, 2, 3, 4, 5, 6, 7, 8, 9, 10] (by decide) rfl rfl rfl 4 0 rfl rfl rfl rfl rfl (Nat.le_of_ble_eq_true rfl) dX4_candidates_27 ⟨Nat.le_of_ble_eq_true rfl, Nat.le_of_ble_eq_true rfl⟩ (fun H locs hP hD hS => ?_)
    refine lv_if_ne (tgt := 35) hx hb dX4_candidates_30 (by decide) (fun c_30 => ?_) (fun c_30 => ?_)
    · have hf := ite_f c_30 hf
      refine lv_aload_n hx hb dX4_candidates_35 rfl (lv_at hl 0 rfl) ?_
      refine lv_iload_n hx hb dX4_candidates_36 rfl (lv_at hl 2 rfl) ?_
      obtain ⟨x37, hy37, hf⟩ := Option.bind_eq_some_iff.mp hf
      refine clV_v (As := [.int p2]) (rest := []) (wM cI cZ md x27.2 msz mrn mmy mdf mgu x37.1 x37.2.1 mba mgi mfi mle mst msu mtr mdi mfa x37.2.2) ⟨hx, hb, hml, hown, hts⟩ (K_X4_solve l D cI cZ md H.size N x27.2 msz mrn mmy mdf mgu mhs mlv mba mgi mfi mle mst msu mtr mdi mfa mca p2 _ hy37) (cwV 1 hts gX4_candidates_X4_solve rfl rfl rfl (by decide +kernel) ⟨Nat.le_of_ble_eq_true rfl, Nat.le_of_ble_eq_true rfl⟩) hK hP hD hS hA hl.1 [0, 1, 2, 3, 4, 5, 6, 7, 8, 9, 10] (by decide) rfl rfl rfl 4 0 rfl rfl rfl rfl rfl (Nat.le_of_ble_eq_true rfl) dX4_candidates_37 ⟨Nat.le_of_ble_eq_true rfl, Nat.le_of_ble_eq_true rfl⟩ (fun H locs hP hD hS => ?_)
      refine lv_aload_n hx hb dX4_candidates_40 rfl (lv_at hl 0 rfl) ?_
      refine va_get (D := D) (ci := 4) (v := .ref (md 10)) (C := RX4) (T := TX4) (N := 18) hx hb hts hinX4 hown hK.1 hP 0 rfl rfl 15 (by decide) (hts (.fieldLink RX4 42 "GridpuzzleModel" "candidates" "[I") (by decide +kernel)) (fun _ h9 => h9) rfl dX4_candidates_41 ?_
      refine lv_iload_n hx hb dX4_candidates_44 rfl (lv_at hl 1 rfl) ?_
      obtain ⟨hz45, hf⟩ := gd_some hf
      refine va_iald hx hb hK.1 hP 10 0 rfl rfl hz45 dX4_candidates_45 ?_
      cases hf
      exact hR _ _ _ _ _ _ rfl rfl hP hD hS dX4_candidates_46
    · have hf := ite_t c_30 hf
      refine lv_iconst (v := 0) hx hb dX4_candidates_33 (by decide) ?_
      cases hf
      exact hR _ _ _ _ _ _ rfl rfl hP hD hS dX4_candidates_34
  refine lv_if_ne (tgt := 13) hx hb dX4_candidates_6 (by decide) (fun c_6 => ?_) (fun c_6 => ?_)
  · have hf := ite_f c_6 hf
    refine lv_iload_n hx hb dX4_candidates_13 rfl (lv_at hl 2 rfl) ?_
    refine lv_iconst (v := 0) hx hb dX4_candidates_14 (by decide) ?_
    refine lv_iconst (v := 3) hx hb dX4_candidates_15 (by decide) ?_
    refine clS_i (As := [.int p2, .int 0, .int 3]) (rest := [.ref (md 0)]) (wM cI cZ md mth msz mrn mmy mdf mgu mhs mlv mba mgi mfi mle mst msu mtr mdi mfa mca) ⟨hx, hb, hml, hown, hts⟩ (K_X4_in l D cI cZ H.size  p2 0 3 _ rfl) (va_cwS 3 hts gX4_candidates_X4_in rfl rfl rfl (by decide +kernel) ⟨Nat.le_of_ble_eq_true rfl, Nat.le_of_ble_eq_true rfl⟩) hK hP hD hS hA hl.1 [] (by decide) rfl rfl rfl rfl rfl (Nat.le_of_ble_eq_true rfl) dX4_candidates_16 ⟨Nat.le_of_ble_eq_true rfl, Nat.le_of_ble_eq_true rfl⟩ (fun H locs hP hD hS => ?_)
    refine lv_if_eq (tgt := 26) hx hb dX4_candidates_19 (by decide) (fun c_19 => ?_) (fun c_19 => ?_)
    · have hf := ite_t c_19 hf
      refine lv_iconst (v := 2) hx hb dX4_candidates_26 (by decide) ?_
      exact w27 2 hf _ _ _ hP hD hS (lv_sub hl [0, 1, 2] rfl)
    · have hf := ite_f c_19 hf
      refine lv_iconst (v := 0) hx hb dX4_candidates_22 (by decide) ?_
      refine lv_goto (tgt := 27) hx hb dX4_candidates_23 (by decide) ?_
      exact w27 0 hf _ _ _ hP hD hS (lv_sub hl [0, 1, 2] rfl)
  · have hf := ite_t c_6 hf
    refine lv_iconst (v := 1) hx hb dX4_candidates_9 (by decide) ?_
    refine lv_goto (tgt := 27) hx hb dX4_candidates_10 (by decide) ?_
    exact w27 1 hf _ _ _ hP hD hS (lv_sub hl [0, 1, 2] rfl)
def rm_X4_find : Room := { frames := 5, cells := 0, slots := 0, locals := 108 }
set_option maxRecDepth 100000 in
set_option maxHeartbeats 8000000 in
theorem K_X4_find (l : Launch) (D : va_G) (cI cZ : ClassId) (md : Nat → Nat) (sz : Nat) (N : Nat) (mth msz mrn mmy mdf mgu mhs mlv : Int32) (mba mgi mfi mle mst msu mtr mdi mfa mca : Nat → Int32) (p1 : Int32) (r : (Int32 × Int32 × Int32 × (Nat → Int32))) (hf : f_X4_find N msz mrn mhs mlv mba mgi mfi mle mst msu mca p1 = some r) : Met l yX4_find wsX4_find rm_X4_find (PC D cI cZ sz [.ref (md 0), .int p1] (wM cI cZ md mth msz mrn mmy mdf mgu mhs mlv mba mgi mfi mle mst msu mtr mdi mfa mca)) (QI D cI cZ sz (wM cI cZ md mth msz mrn mmy mdf mgu mhs mlv mba mgi mfi mle mst msu mtr mdi mfa mca) r.1 (wM cI cZ md mth msz mrn mmy mdf mgu r.2.1 r.2.2.1 mba mgi mfi mle mst msu mtr mdi mfa r.2.2.2)) 0 0 (va_A (wM cI cZ md mth msz mrn mmy mdf mgu mhs mlv mba mgi mfi mle mst msu mtr mdi mfa mca) sz) := by
  refine mk_i (cc := cX4_find) (maxL := 3) (lv0 := [(0, .ref (md 0)), (1, .int p1)]) (by decide) rfl (Nat.le_of_ble_eq_true rfl) rfl ?_
  intro p e s m args below meth c ls A Q H hx hb hml hown hts hK hP hD hA hS hl hR
  have hinX4 : ∀ w ∈ wsX40, w ∈ wsX4_find := by decide +kernel
  rw [f_X4_find] at hf
  refine lv_aload_n hx hb dX4_find_0 rfl (lv_at hl 0 rfl) ?_
  refine lv_iload_n hx hb dX4_find_1 rfl (lv_at hl 1 rfl) ?_
  obtain ⟨x2, hy2, hf⟩ := Option.bind_eq_some_iff.mp hf
  refine clV_v (As := [.int p1]) (rest := []) (wM cI cZ md mth msz mrn mmy mdf mgu x2.1 x2.2.1 mba mgi mfi mle mst msu mtr mdi mfa x2.2.2) ⟨hx, hb, hml, hown, hts⟩ (K_X4_solve l D cI cZ md H.size N mth msz mrn mmy mdf mgu mhs mlv mba mgi mfi mle mst msu mtr mdi mfa mca p1 _ hy2) (cwV 1 hts gX4_find_X4_solve rfl rfl rfl (by decide +kernel) ⟨Nat.le_of_ble_eq_true rfl, Nat.le_of_ble_eq_true rfl⟩) hK hP hD hS hA hl.1 [0, 1, 2, 3, 4, 5, 6, 7, 8, 9, 10] (by decide) rfl rfl rfl 4 0 rfl rfl rfl rfl rfl (Nat.le_of_ble_eq_true rfl) dX4_find_2 ⟨Nat.le_of_ble_eq_true rfl, Nat.le_of_ble_eq_true rfl⟩ (fun H locs hP hD hS => ?_)
  refine lv_iconst (v := 0) hx hb dX4_find_5 (by decide) ?_
  refine lv_istore_n (lv' := [(2, .int 0), (0, .ref (md 0)), (1, .int p1)]) hx hb dX4_find_6 rfl hl (by decide) rfl (fun ls hl => ?_)
  have l7 : ∀ (nn : Nat) (v2_7 : Int32), f_X4_find_L7 msz x2.1 x2.2.1 mba mgi x2.2.2 nn v2_7 = some r → ∀ (H : Heap) (locs : List Loc) (ls : Array Slot), va_P D vwCl (wM cI cZ md mth msz mrn mmy mdf mgu x2.1 x2.2.1 mba mgi mfi mle mst msu mtr mdi mfa x2.2.2) H → va_D A (wM cI cZ md mth msz mrn mmy mdf mgu x2.1 x2.2.1 mba mgi mfi mle mst msu mtr mdi mfa x2.2.2) → va_S A s.heap H locs → lv_has ls 3 [(0, .ref (md 0)), (2, .int v2_7)] → W p l e rm_X4_find s m args below meth c H locs 0 0 Q (F0 m 7 ls []) := by
    intro nn
    induction nn with
    | zero => intro _ hf; exact nomatch (show (none : Option _) = some r from hf)
    | succ n7 ih7 =>
      intro v2_7 hf H locs ls hP hD hS hl
      rw [f_X4_find_L7.eq_2] at hf
      refine lv_iload_n hx hb dX4_find_7 rfl (lv_at hl 1 rfl) ?_
      refine lv_bipush (v := 16) hx hb dX4_find_8 (by decide) ?_
      refine lv_icmp_ge (tgt := 50) hx hb dX4_find_10 (by decide) (fun c_10 => ?_) (fun c_10 => ?_)
      · have hf := ite_t c_10 hf
        refine lv_iconst (v := (-1)) hx hb dX4_find_50 (by decide) ?_
        cases hf
        exact hR _ _ _ _ _ _ rfl rfl hP hD hS dX4_find_51
      · have hf := ite_f c_10 hf
        refine lv_aload_n hx hb dX4_find_13 rfl (lv_at hl 0 rfl) ?_
        refine lv_iload_n hx hb dX4_find_14 rfl (lv_at hl 1 rfl) ?_
        obtain ⟨x15, hy15, hf⟩ := Option.bind_eq_some_iff.mp hf
        refine clV_i (As := [.int v2_7]) (rest := []) (wM cI cZ md mth msz mrn mmy mdf mgu x2.1 x2.2.1 mba mgi mfi mle mst msu mtr mdi mfa x2.2.2) ⟨hx, hb, hml, hown, hts⟩ (K_X4_isOpen l D cI cZ md H.size mth msz mrn mmy mdf mgu x2.1 x2.2.1 mba mgi mfi mle mst msu mtr mdi mfa x2.2.2 v2_7 _ hy15) (cwV 1 hts gX4_find_X4_isOpen rfl rfl rfl (by decide +kernel) ⟨Nat.le_of_ble_eq_true rfl, Nat.le_of_ble_eq_true rfl⟩) hK hP hD hS hA hl.1 [0, 1, 2, 3, 4, 5, 6, 7, 8, 9, 10] (by decide) rfl rfl rfl 4 0 rfl rfl rfl rfl rfl (Nat.le_of_ble_eq_true rfl) dX4_find_15 ⟨Nat.le_of_ble_eq_true rfl, Nat.le_of_ble_eq_true rfl⟩ (fun H locs hP hD hS => ?_)
        obtain ⟨k44, hk44, hf⟩ := jn_some hf
        have w44 : ∀ (_ : Unit), k44 () = some r → ∀ (H : Heap) (locs : List Loc) (ls : Array Slot), va_P D vwCl (wM cI cZ md mth msz mrn mmy mdf mgu x2.1 x2.2.1 mba mgi mfi mle mst msu mtr mdi mfa x2.2.2) H → va_D A (wM cI cZ md mth msz mrn mmy mdf mgu x2.1 x2.2.1 mba mgi mfi mle mst msu mtr mdi mfa x2.2.2) → va_S A s.heap H locs → lv_has ls 3 [(0, .ref (md 0)), (2, .int v2_7)] → W p l e rm_X4_find s m args below meth c H locs 0 0 Q (F0 m 44 ls []) := by
          intro _ hf H locs ls hP hD hS hl
          rw [hk44] at hf
          try dsimp only at hf
          refine lv_iinc (v := (v2_7 + 1)) (lv' := [(2, .int (v2_7 + 1)), (0, .ref (md 0))]) hx hb dX4_find_44 hl (k := 1) rfl rfl (by decide) rfl (fun ls hl => ?_)
          refine lv_goto (tgt := 7) hx hb dX4_find_47 (by decide) ?_
          exact ih7 (v2_7 + 1) hf _ _ _ hP hD hS (lv_sub hl [1, 0] rfl)
        refine lv_if_eq (tgt := 44) hx hb dX4_find_18 (by decide) (fun c_18 => ?_) (fun c_18 => ?_)
        · have hf := ite_t c_18 hf
          exact w44 () hf _ _ _ hP hD hS (lv_sub hl [0, 1] rfl)
        · have hf := ite_f c_18 hf
          refine lv_aload_n hx hb dX4_find_21 rfl (lv_at hl 0 rfl) ?_
          refine va_get (D := D) (ci := 4) (v := .ref (md 2)) (C := RX4) (T := TX4) (N := 18) hx hb hts hinX4 hown hK.1 hP 0 rfl rfl 3 (by decide) (hts (.fieldLink RX4 17 "GridpuzzleModel" "given" "[I") (by decide +kernel)) (fun _ h9 => h9) rfl dX4_find_22 ?_
          refine lv_iload_n hx hb dX4_find_25 rfl (lv_at hl 1 rfl) ?_
          obtain ⟨hz26, hf⟩ := gd_some hf
          refine va_iald hx hb hK.1 hP 2 0 rfl rfl hz26 dX4_find_26 ?_
          refine lv_if_ne (tgt := 44) hx hb dX4_find_27 (by decide) (fun c_27 => ?_) (fun c_27 => ?_)
          · have hf := ite_f c_27 hf
            exact w44 () hf _ _ _ hP hD hS (lv_sub hl [0, 1] rfl)
          · have hf := ite_t c_27 hf
            refine lv_aload_n hx hb dX4_find_30 rfl (lv_at hl 0 rfl) ?_
            refine va_get (D := D) (ci := 4) (v := .ref (md 10)) (C := RX4) (T := TX4) (N := 18) hx hb hts hinX4 hown hK.1 hP 0 rfl rfl 15 (by decide) (hts (.fieldLink RX4 42 "GridpuzzleModel" "candidates" "[I") (by decide +kernel)) (fun _ h9 => h9) rfl dX4_find_31 ?_
            refine lv_iload_n hx hb dX4_find_34 rfl (lv_at hl 1 rfl) ?_
            obtain ⟨hz35, hf⟩ := gd_some hf
            refine va_iald hx hb hK.1 hP 10 0 rfl rfl hz35 dX4_find_35 ?_
            refine clS_i (As := [.int (x2.2.2 ((v2_7 : Int32)).toNatClampNeg)]) (rest := []) (wM cI cZ md mth msz mrn mmy mdf mgu x2.1 x2.2.1 mba mgi mfi mle mst msu mtr mdi mfa x2.2.2) ⟨hx, hb, hml, hown, hts⟩ (K_X4_isSingle l D cI cZ H.size  (x2.2.2 ((v2_7 : Int32)).toNatClampNeg) _ rfl) (va_cwS 1 hts gX4_find_X4_isSingle rfl rfl rfl (by decide +kernel) ⟨Nat.le_of_ble_eq_true rfl, Nat.le_of_ble_eq_true rfl⟩) hK hP hD hS hA hl.1 [] (by decide) rfl rfl rfl rfl rfl (Nat.le_of_ble_eq_true rfl) dX4_find_36 ⟨Nat.le_of_ble_eq_true rfl, Nat.le_of_ble_eq_true rfl⟩ (fun H locs hP hD hS => ?_)
            refine lv_if_eq (tgt := 44) hx hb dX4_find_39 (by decide) (fun c_39 => ?_) (fun c_39 => ?_)
            · have hf := ite_t c_39 hf
              exact w44 () hf _ _ _ hP hD hS (lv_sub hl [0, 1] rfl)
            · have hf := ite_f c_39 hf
              refine lv_iload_n hx hb dX4_find_42 rfl (lv_at hl 1 rfl) ?_
              cases hf
              exact hR _ _ _ _ _ _ rfl rfl hP hD hS dX4_find_43
  exact l7 N 0 hf _ _ _ hP hD hS (lv_sub hl [1, 0] rfl)
def rm_X4_hint : Room := { frames := 6, cells := 0, slots := 0, locals := 130 }
set_option maxRecDepth 100000 in
set_option maxHeartbeats 8000000 in
theorem K_X4_hint (l : Launch) (D : va_G) (cI cZ : ClassId) (md : Nat → Nat) (sz : Nat) (N : Nat) (mth msz mrn mmy mdf mgu mhs mlv : Int32) (mba mgi mfi mle mst msu mtr mdi mfa mca : Nat → Int32) (r : (Int32 × Int32 × Int32 × Int32 × (Nat → Int32))) (hf : f_X4_hint N mth msz mrn mhs mlv mba mgi mfi mle mst msu mca = some r) : Met l yX4_hint wsX4_hint rm_X4_hint (PC D cI cZ sz [.ref (md 0)] (wM cI cZ md mth msz mrn mmy mdf mgu mhs mlv mba mgi mfi mle mst msu mtr mdi mfa mca)) (QI D cI cZ sz (wM cI cZ md mth msz mrn mmy mdf mgu mhs mlv mba mgi mfi mle mst msu mtr mdi mfa mca) r.1 (wM cI cZ md r.2.1 msz mrn mmy mdf mgu r.2.2.1 r.2.2.2.1 mba mgi mfi mle mst msu mtr mdi mfa r.2.2.2.2)) 0 0 (va_A (wM cI cZ md mth msz mrn mmy mdf mgu mhs mlv mba mgi mfi mle mst msu mtr mdi mfa mca) sz) := by
  refine mk_i (cc := cX4_hint) (maxL := 3) (lv0 := [(0, .ref (md 0))]) (by decide) rfl (Nat.le_of_ble_eq_true rfl) rfl ?_
  intro p e s m args below meth c ls A Q H hx hb hml hown hts hK hP hD hA hS hl hR
  have hinX4 : ∀ w ∈ wsX40, w ∈ wsX4_hint := by decide +kernel
  rw [f_X4_hint] at hf
  refine lv_aload_n hx hb dX4_hint_0 rfl (lv_at hl 0 rfl) ?_
  refine lv_iconst (v := 0) hx hb dX4_hint_1 (by decide) ?_
  refine va_put (D := D) (ci := 4) (v := .int 0) (ty := .int) (C := RX4) (T := TX4) (N := 18) hx hb hts hinX4 tyX4 tyX4_ok nmX4 hown hK.1 hP hD hS 0 rfl rfl 0 (by decide) (hts (.fieldLink RX4 48 "GridpuzzleModel" "thrown" "I") (by decide +kernel)) (fun _ h9 => h9) rfl (by decide +kernel) rfl rfl (Nat.le_of_ble_eq_true rfl) dX4_hint_2 (fun H locs hP hD hS => ?_)
  have hP : va_P D vwCl (wM cI cZ md 0 msz mrn mmy mdf mgu mhs mlv mba mgi mfi mle mst msu mtr mdi mfa mca) H := hP
  have hD : va_D A (wM cI cZ md 0 msz mrn mmy mdf mgu mhs mlv mba mgi mfi mle mst msu mtr mdi mfa mca) := hD
  refine lv_iconst (v := 1) hx hb dX4_hint_5 (by decide) ?_
  refine lv_istore_n (lv' := [(1, .int 1), (0, .ref (md 0))]) hx hb dX4_hint_6 rfl hl (by decide) rfl (fun ls hl => ?_)
  refine lv_aload_n hx hb dX4_hint_7 rfl (lv_at hl 1 rfl) ?_
  refine lv_iconst (v := 1) hx hb dX4_hint_8 (by decide) ?_
  obtain ⟨x9, hy9, hf⟩ := Option.bind_eq_some_iff.mp hf
  refine clV_i (As := [.int 1]) (rest := []) (wM cI cZ md 0 msz mrn mmy mdf mgu x9.2.1 x9.2.2.1 mba mgi mfi mle mst msu mtr mdi mfa x9.2.2.2) ⟨hx, hb, hml, hown, hts⟩ (K_X4_find l D cI cZ md H.size N 0 msz mrn mmy mdf mgu mhs mlv mba mgi mfi mle mst msu mtr mdi mfa mca 1 _ hy9) (cwV 1 hts gX4_hint_X4_find rfl rfl rfl (by decide +kernel) ⟨Nat.le_of_ble_eq_true rfl, Nat.le_of_ble_eq_true rfl⟩) hK hP hD hS hA hl.1 [0, 1, 2, 3, 4, 5, 6, 7, 8, 9, 10] (by decide) rfl rfl rfl 4 0 rfl rfl rfl rfl rfl (Nat.le_of_ble_eq_true rfl) dX4_hint_9 ⟨Nat.le_of_ble_eq_true rfl, Nat.le_of_ble_eq_true rfl⟩ (fun H locs hP hD hS => ?_)
  refine lv_istore_n (lv' := [(2, .int x9.1), (1, .int 1), (0, .ref (md 0))]) hx hb dX4_hint_12 rfl hl (by decide) rfl (fun ls hl => ?_)
  have l13 : ∀ (nn : Nat) (v1_13 : Int32) (v2_13 : Int32) (mhs_13 : Int32) (mlv_13 : Int32) (mca_13 : Nat → Int32), f_X4_hint_L13 N 0 msz mrn mba mgi mfi mle mst msu nn v1_13 v2_13 mhs_13 mlv_13 mca_13 = some r → ∀ (H : Heap) (locs : List Loc) (ls : Array Slot), va_P D vwCl (wM cI cZ md 0 msz mrn mmy mdf mgu mhs_13 mlv_13 mba mgi mfi mle mst msu mtr mdi mfa mca_13) H → va_D A (wM cI cZ md 0 msz mrn mmy mdf mgu mhs_13 mlv_13 mba mgi mfi mle mst msu mtr mdi mfa mca_13) → va_S A s.heap H locs → lv_has ls 3 [(0, .ref (md 0)), (1, .int v1_13), (2, .int v2_13)] → W p l e rm_X4_hint s m args below meth c H locs 0 0 Q (F0 m 13 ls []) := by
    intro nn
    induction nn with
    | zero => intro _ _ _ _ _ hf; exact nomatch (show (none : Option _) = some r from hf)
    | succ n13 ih13 =>
      intro v1_13 v2_13 mhs_13 mlv_13 mca_13 hf H locs ls hP hD hS hl
      rw [f_X4_hint_L13.eq_2] at hf
      refine lv_iload_n hx hb dX4_hint_13 rfl (lv_at hl 2 rfl) ?_
      refine lv_iconst (v := (-1)) hx hb dX4_hint_14 (by decide) ?_
      refine lv_icmp_ne (tgt := 35) hx hb dX4_hint_15 (by decide) (fun c_15 => ?_) (fun c_15 => ?_)
      · have hf := ite_f c_15 hf
        refine lv_iload_n hx hb dX4_hint_35 rfl (lv_at hl 2 rfl) ?_
        cases hf
        exact hR _ _ _ _ _ _ rfl rfl hP hD hS dX4_hint_36
      · have hf := ite_t c_15 hf
        refine lv_iload_n hx hb dX4_hint_18 rfl (lv_at hl 1 rfl) ?_
        refine lv_iconst (v := 3) hx hb dX4_hint_19 (by decide) ?_
        refine lv_icmp_ge (tgt := 35) hx hb dX4_hint_20 (by decide) (fun c_20 => ?_) (fun c_20 => ?_)
        · have hf := ite_t c_20 hf
          refine lv_iload_n hx hb dX4_hint_35 rfl (lv_at hl 2 rfl) ?_
          cases hf
          exact hR _ _ _ _ _ _ rfl rfl hP hD hS dX4_hint_36
        · have hf := ite_f c_20 hf
          refine lv_iinc (v := (v1_13 + 1)) (lv' := [(1, .int (v1_13 + 1)), (0, .ref (md 0)), (2, .int v2_13)]) hx hb dX4_hint_23 hl (k := 1) rfl rfl (by decide) rfl (fun ls hl => ?_)
          refine lv_aload_n hx hb dX4_hint_26 rfl (lv_at hl 1 rfl) ?_
          refine lv_iload_n hx hb dX4_hint_27 rfl (lv_at hl 0 rfl) ?_
          obtain ⟨x28, hy28, hf⟩ := Option.bind_eq_some_iff.mp hf
          refine clV_i (As := [.int (v1_13 + 1)]) (rest := []) (wM cI cZ md 0 msz mrn mmy mdf mgu x28.2.1 x28.2.2.1 mba mgi mfi mle mst msu mtr mdi mfa x28.2.2.2) ⟨hx, hb, hml, hown, hts⟩ (K_X4_find l D cI cZ md H.size N 0 msz mrn mmy mdf mgu mhs_13 mlv_13 mba mgi mfi mle mst msu mtr mdi mfa mca_13 (v1_13 + 1) _ hy28) (cwV 1 hts gX4_hint_X4_find rfl rfl rfl (by decide +kernel) ⟨Nat.le_of_ble_eq_true rfl, Nat.le_of_ble_eq_true rfl⟩) hK hP hD hS hA hl.1 [0, 1, 2, 3, 4, 5, 6, 7, 8, 9, 10] (by decide) rfl rfl rfl 4 0 rfl rfl rfl rfl rfl (Nat.le_of_ble_eq_true rfl) dX4_hint_28 ⟨Nat.le_of_ble_eq_true rfl, Nat.le_of_ble_eq_true rfl⟩ (fun H locs hP hD hS => ?_)
          refine lv_istore_n (lv' := [(2, .int x28.1), (1, .int (v1_13 + 1)), (0, .ref (md 0))]) hx hb dX4_hint_31 rfl hl (by decide) rfl (fun ls hl => ?_)
          refine lv_goto (tgt := 13) hx hb dX4_hint_32 (by decide) ?_
          exact ih13 (v1_13 + 1) x28.1 x28.2.1 x28.2.2.1 x28.2.2.2 hf _ _ _ hP hD hS (lv_sub hl [2, 1, 0] rfl)
  exact l13 N 1 x9.1 x9.2.1 x9.2.2.1 x9.2.2.2 hf _ _ _ hP hD hS (lv_sub hl [2, 1, 0] rfl)
def rm_X4_hintRules : Room := { frames := 6, cells := 0, slots := 0, locals := 130 }
set_option maxRecDepth 100000 in
set_option maxHeartbeats 8000000 in
theorem K_X4_hintRules (l : Launch) (D : va_G) (cI cZ : ClassId) (md : Nat → Nat) (sz : Nat) (N : Nat) (mth msz mrn mmy mdf mgu mhs mlv : Int32) (mba mgi mfi mle mst msu mtr mdi mfa mca : Nat → Int32) (r : (Int32 × Int32 × Int32 × Int32 × (Nat → Int32))) (hf : f_X4_hintRules N mth msz mrn mhs mlv mba mgi mfi mle mst msu mca = some r) : Met l yX4_hintRules wsX4_hintRules rm_X4_hintRules (PC D cI cZ sz [.ref (md 0)] (wM cI cZ md mth msz mrn mmy mdf mgu mhs mlv mba mgi mfi mle mst msu mtr mdi mfa mca)) (QI D cI cZ sz (wM cI cZ md mth msz mrn mmy mdf mgu mhs mlv mba mgi mfi mle mst msu mtr mdi mfa mca) r.1 (wM cI cZ md r.2.1 msz mrn mmy mdf mgu r.2.2.1 r.2.2.2.1 mba mgi mfi mle mst msu mtr mdi mfa r.2.2.2.2)) 0 0 (va_A (wM cI cZ md mth msz mrn mmy mdf mgu mhs mlv mba mgi mfi mle mst msu mtr mdi mfa mca) sz) := by
  refine mk_i (cc := cX4_hintRules) (maxL := 2) (lv0 := [(0, .ref (md 0))]) (by decide) rfl (Nat.le_of_ble_eq_true rfl) rfl ?_
  intro p e s m args below meth c ls A Q H hx hb hml hown hts hK hP hD hA hS hl hR
  have hinX4 : ∀ w ∈ wsX40, w ∈ wsX4_hintRules := by decide +kernel
  rw [f_X4_hintRules] at hf
  refine lv_aload_n hx hb dX4_hintRules_0 rfl (lv_at hl 0 rfl) ?_
  refine lv_iconst (v := 0) hx hb dX4_hintRules_1 (by decide) ?_
  refine va_put (D := D) (ci := 4) (v := .int 0) (ty := .int) (C := RX4) (T := TX4) (N := 18) hx hb hts hinX4 tyX4 tyX4_ok nmX4 hown hK.1 hP hD hS 0 rfl rfl 0 (by decide) (hts (.fieldLink RX4 48 "GridpuzzleModel" "thrown" "I") (by decide +kernel)) (fun _ h9 => h9) rfl (by decide +kernel) rfl rfl (Nat.le_of_ble_eq_true rfl) dX4_hintRules_2 (fun H locs hP hD hS => ?_)
  have hP : va_P D vwCl (wM cI cZ md 0 msz mrn mmy mdf mgu mhs mlv mba mgi mfi mle mst msu mtr mdi mfa mca) H := hP
  have hD : va_D A (wM cI cZ md 0 msz mrn mmy mdf mgu mhs mlv mba mgi mfi mle mst msu mtr mdi mfa mca) := hD
  refine lv_iconst (v := 1) hx hb dX4_hintRules_5 (by decide) ?_
  refine lv_istore_n (lv' := [(1, .int 1), (0, .ref (md 0))]) hx hb dX4_hintRules_6 rfl hl (by decide) rfl (fun ls hl => ?_)
  have l7 : ∀ (nn : Nat) (v1_7 : Int32) (mhs_7 : Int32) (mlv_7 : Int32) (mca_7 : Nat → Int32), f_X4_hintRules_L7 N 0 msz mrn mba mgi mfi mle mst msu nn v1_7 mhs_7 mlv_7 mca_7 = some r → ∀ (H : Heap) (locs : List Loc) (ls : Array Slot), va_P D vwCl (wM cI cZ md 0 msz mrn mmy mdf mgu mhs_7 mlv_7 mba mgi mfi mle mst msu mtr mdi mfa mca_7) H → va_D A (wM cI cZ md 0 msz mrn mmy mdf mgu mhs_7 mlv_7 mba mgi mfi mle mst msu mtr mdi mfa mca_7) → va_S A s.heap H locs → lv_has ls 2 [(0, .ref (md 0)), (1, .int v1_7)] → W p l e rm_X4_hintRules s m args below meth c H locs 0 0 Q (F0 m 7 ls []) := by
    intro nn
    induction nn with
    | zero => intro _ _ _ _ hf; exact nomatch (show (none : Option _) = some r from hf)
    | succ n7 ih7 =>
      intro v1_7 mhs_7 mlv_7 mca_7 hf H locs ls hP hD hS hl
      rw [f_X4_hintRules_L7.eq_2] at hf
      refine lv_iload_n hx hb dX4_hintRules_7 rfl (lv_at hl 1 rfl) ?_
      refine lv_iconst (v := 3) hx hb dX4_hintRules_8 (by decide) ?_
      refine lv_icmp_gt (tgt := 29) hx hb dX4_hintRules_9 (by decide) (fun c_9 => ?_) (fun c_9 => ?_)
      · have hf := ite_t c_9 hf
        refine lv_iconst (v := (-1)) hx hb dX4_hintRules_29 (by decide) ?_
        cases hf
        exact hR _ _ _ _ _ _ rfl rfl hP hD hS dX4_hintRules_30
      · have hf := ite_f c_9 hf
        refine lv_aload_n hx hb dX4_hintRules_12 rfl (lv_at hl 0 rfl) ?_
        refine lv_iload_n hx hb dX4_hintRules_13 rfl (lv_at hl 1 rfl) ?_
        obtain ⟨x14, hy14, hf⟩ := Option.bind_eq_some_iff.mp hf
        refine clV_i (As := [.int v1_7]) (rest := []) (wM cI cZ md 0 msz mrn mmy mdf mgu x14.2.1 x14.2.2.1 mba mgi mfi mle mst msu mtr mdi mfa x14.2.2.2) ⟨hx, hb, hml, hown, hts⟩ (K_X4_find l D cI cZ md H.size N 0 msz mrn mmy mdf mgu mhs_7 mlv_7 mba mgi mfi mle mst msu mtr mdi mfa mca_7 v1_7 _ hy14) (cwV 1 hts gX4_hintRules_X4_find rfl rfl rfl (by decide +kernel) ⟨Nat.le_of_ble_eq_true rfl, Nat.le_of_ble_eq_true rfl⟩) hK hP hD hS hA hl.1 [0, 1, 2, 3, 4, 5, 6, 7, 8, 9, 10] (by decide) rfl rfl rfl 4 0 rfl rfl rfl rfl rfl (Nat.le_of_ble_eq_true rfl) dX4_hintRules_14 ⟨Nat.le_of_ble_eq_true rfl, Nat.le_of_ble_eq_true rfl⟩ (fun H locs hP hD hS => ?_)
        refine lv_iconst (v := (-1)) hx hb dX4_hintRules_17 (by decide) ?_
        refine lv_icmp_eq (tgt := 23) hx hb dX4_hintRules_18 (by decide) (fun c_18 => ?_) (fun c_18 => ?_)
        · have hf := ite_t c_18 hf
          refine lv_iinc (v := (v1_7 + 1)) (lv' := [(1, .int (v1_7 + 1)), (0, .ref (md 0))]) hx hb dX4_hintRules_23 hl (k := 1) rfl rfl (by decide) rfl (fun ls hl => ?_)
          refine lv_goto (tgt := 7) hx hb dX4_hintRules_26 (by decide) ?_
          exact ih7 (v1_7 + 1) x14.2.1 x14.2.2.1 x14.2.2.2 hf _ _ _ hP hD hS (lv_sub hl [1, 0] rfl)
        · have hf := ite_f c_18 hf
          refine lv_iload_n hx hb dX4_hintRules_21 rfl (lv_at hl 1 rfl) ?_
          cases hf
          exact hR _ _ _ _ _ _ rfl rfl hP hD hS dX4_hintRules_22
  exact l7 N 1 mhs mlv mca hf _ _ _ hP hD hS (lv_sub hl [1, 0] rfl)
