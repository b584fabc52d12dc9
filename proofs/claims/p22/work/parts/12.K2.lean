def rm_X2_start : Room := { frames := 2, cells := 0, slots := 0, locals := 42 }
set_option maxRecDepth 100000 in
set_option maxHeartbeats 8000000 in
theorem K_X2_start (l : Launch) (D : va_G) (cI cZ : ClassId) (ad : Nat → Nat) (sz : Nat) (N : Nat) (size rc : Int32) (g fs st ln su rr cr : Nat → Int32) (bc : Int32) (bl td fi fa : Nat → Int32) (r : (Int32 × (Nat → Int32) × (Nat → Int32) × (Nat → Int32))) (hf : f_X2_start N size g bc bl td fi = some r) : Met l yX2_start wsX2_start rm_X2_start (PC D cI cZ sz [.ref (ad 8)] (wT cI ad size rc g fs st ln su rr cr bc bl td fi fa)) (QV D cI cZ sz (wT cI ad size rc g fs st ln su rr cr bc bl td fi fa) (wT cI ad size rc g fs st ln su rr cr r.1 r.2.1 r.2.2.1 r.2.2.2 fa)) 0 0 (va_A (wT cI ad size rc g fs st ln su rr cr bc bl td fi fa) sz) := by
  refine mk_v (cc := cX2_start) (maxL := 2) (lv0 := [(0, .ref (ad 8))]) (by decide) rfl (Nat.le_of_ble_eq_true rfl) rfl ?_
  intro p e s m args below meth c ls A Q H hx hb hml hown hts hK hP hD hA hS hl hR
  have hinX2 : ∀ w ∈ wsX20, w ∈ wsX2_start := by decide +kernel
  rw [f_X2_start] at hf
  refine lv_aload_n hx hb dX2_start_0 rfl (lv_at hl 0 rfl) ?_
  refine lv_iconst (v := 0) hx hb dX2_start_1 (by decide) ?_
  refine va_put (D := D) (ci := 2) (v := .int 0) (ty := .int) (C := RX2) (T := TX2) (N := 6) hx hb hts hinX2 tyX2 tyX2_ok nmX2 hown hK.1 hP hD hS 8 rfl rfl 1 (by decide) (hts (.fieldLink RX2 31 "Gridpuzzle$Trying" "blankCount" "I") (by decide +kernel)) (fun _ h9 => h9) rfl (by decide +kernel) rfl rfl (Nat.le_of_ble_eq_true rfl) dX2_start_2 (fun H locs hP hD hS => ?_)
  have hP : va_P D vwCl (wT cI ad size rc g fs st ln su rr cr 0 bl td fi fa) H := hP
  have hD : va_D A (wT cI ad size rc g fs st ln su rr cr 0 bl td fi fa) := hD
  refine lv_iconst (v := 0) hx hb dX2_start_5 (by decide) ?_
  refine lv_istore_n (lv' := [(1, .int 0), (0, .ref (ad 8))]) hx hb dX2_start_6 rfl hl (by decide) rfl (fun ls hl => ?_)
  have l7 : ∀ (nn : Nat) (v1_7 : Int32) (bc_7 : Int32) (bl_7 : Nat → Int32) (td_7 : Nat → Int32) (fi_7 : Nat → Int32), f_X2_start_L7 size g nn v1_7 bc_7 bl_7 td_7 fi_7 = some r → ∀ (H : Heap) (locs : List Loc) (ls : Array Slot), va_P D vwCl (wT cI ad size rc g fs st ln su rr cr bc_7 bl_7 td_7 fi_7 fa) H → va_D A (wT cI ad size rc g fs st ln su rr cr bc_7 bl_7 td_7 fi_7 fa) → va_S A s.heap H locs → lv_has ls 2 [(0, .ref (ad 8)), (1, .int v1_7)] → W p l e rm_X2_start s m args below meth c H locs 0 0 Q (F0 m 7 ls []) := by
    intro nn
    induction nn with
    | zero => intro _ _ _ _ _ hf; exact nomatch (show (none : Option _) = some r from hf)
    | succ n7 ih7 =>
      intro v1_7 bc_7 bl_7 td_7 fi_7 hf H locs ls hP hD hS hl
      rw [f_X2_start_L7.eq_2] at hf
      refine lv_iload_n hx hb dX2_start_7 rfl (lv_at hl 1 rfl) ?_
      refine lv_bipush (v := 16) hx hb dX2_start_8 (by decide) ?_
      refine lv_icmp_ge (tgt := 92) hx hb dX2_start_10 (by decide) (fun c_10 => ?_) (fun c_10 => ?_)
      · have hf := ite_t c_10 hf
        cases hf
        exact hR _ _ _ _ _ rfl hP hD hS dX2_start_92
      · have hf := ite_f c_10 hf
        refine lv_aload_n hx hb dX2_start_13 rfl (lv_at hl 0 rfl) ?_
        refine va_get (D := D) (ci := 2) (v := .ref (ad 10)) (C := RX2) (T := TX2) (N := 6) hx hb hts hinX2 hown hK.1 hP 8 rfl rfl 3 (by decide) (hts (.fieldLink RX2 15 "Gridpuzzle$Trying" "tried" "[I") (by decide +kernel)) (fun _ h9 => h9) rfl dX2_start_14 ?_
        refine lv_iload_n hx hb dX2_start_17 rfl (lv_at hl 1 rfl) ?_
        refine lv_iconst (v := 0) hx hb dX2_start_18 (by decide) ?_
        refine clN_v (As := [.ref (ad 10), .int v1_7, .int 0]) (rest := []) (wT cI ad size rc g fs st ln su rr cr bc_7 bl_7 (f_X3_put 16 td_7 v1_7 0) fi_7 fa) ⟨hx, hb, hml, hown, hts⟩ (K_X3_put l D cI cZ (ad 10) 16 (by decide) H.size td_7 v1_7 0 _ rfl) ⟨va_cnB (host := RX3) 3 hts gX2_start_X3_put_n60 rfl rfl rfl (hK.2 (RX2, 60, yX3_put) (by decide)) (hts (.initialized RX3) (by decide +kernel)) (by decide +kernel) ⟨Nat.le_of_ble_eq_true rfl, Nat.le_of_ble_eq_true rfl⟩, hts (.static yX3_put) (by decide +kernel), trivial⟩ hK hP hD hS hA hl.1 [10] (by decide) rfl rfl rfl rfl rfl (Nat.le_of_ble_eq_true rfl) dX2_start_19 ⟨Nat.le_of_ble_eq_true rfl, Nat.le_of_ble_eq_true rfl⟩ (fun H locs hP hD hS => ?_)
        refine lv_aload_n hx hb dX2_start_22 rfl (lv_at hl 0 rfl) ?_
        refine va_get (D := D) (ci := 2) (v := .ref (ad 11)) (C := RX2) (T := TX2) (N := 6) hx hb hts hinX2 hown hK.1 hP 8 rfl rfl 4 (by decide) (hts (.fieldLink RX2 18 "Gridpuzzle$Trying" "filling" "[I") (by decide +kernel)) (fun _ h9 => h9) rfl dX2_start_23 ?_
        refine lv_iload_n hx hb dX2_start_26 rfl (lv_at hl 1 rfl) ?_
        refine lv_aload_n hx hb dX2_start_27 rfl (lv_at hl 0 rfl) ?_
        refine va_get (D := D) (ci := 2) (v := .ref (ad 0)) (C := RX2) (T := TX2) (N := 6) hx hb hts hinX2 hown hK.1 hP 8 rfl rfl 0 (by decide) (hts (.fieldLink RX2 24 "Gridpuzzle$Trying" "board" "LGridpuzzle$Board;") (by decide +kernel)) (fun _ h9 => h9) rfl dX2_start_28 ?_
        refine lv_iload_n hx hb dX2_start_31 rfl (lv_at hl 1 rfl) ?_
        refine clV_i (As := [.int v1_7]) (rest := [.int v1_7, .ref (ad 11)]) (wT cI ad size rc g fs st ln su rr cr bc_7 bl_7 (f_X3_put 16 td_7 v1_7 0) fi_7 fa) ⟨hx, hb, hml, hown, hts⟩ (K_X0_isOpen l D cI cZ ad H.size size rc g fs st ln su rr cr v1_7 _ rfl) (cwV 1 hts gX2_start_X0_isOpen rfl rfl rfl (by decide +kernel) ⟨Nat.le_of_ble_eq_true rfl, Nat.le_of_ble_eq_true rfl⟩) hK hP hD hS hA hl.1 [0, 1, 2, 3, 4, 5, 6, 7] (by decide) rfl rfl rfl 0 0 rfl rfl rfl rfl rfl (Nat.le_of_ble_eq_true rfl) dX2_start_32 ⟨Nat.le_of_ble_eq_true rfl, Nat.le_of_ble_eq_true rfl⟩ (fun H locs hP hD hS => ?_)
        obtain ⟨k50, hk50, hf⟩ := jn_some hf
        have w50 : ∀ (t0_50 : Int32), k50 t0_50 = some r → ∀ (H : Heap) (locs : List Loc) (ls : Array Slot), va_P D vwCl (wT cI ad size rc g fs st ln su rr cr bc_7 bl_7 (f_X3_put 16 td_7 v1_7 0) fi_7 fa) H → va_D A (wT cI ad size rc g fs st ln su rr cr bc_7 bl_7 (f_X3_put 16 td_7 v1_7 0) fi_7 fa) → va_S A s.heap H locs → lv_has ls 2 [(0, .ref (ad 8)), (1, .int v1_7)] → W p l e rm_X2_start s m args below meth c H locs 0 0 Q (F0 m 50 ls [.int t0_50, .int v1_7, .ref (ad 11)]) := by
          intro t0_50 hf H locs ls hP hD hS hl
          rw [hk50] at hf
          try dsimp only at hf
          refine clN_v (As := [.ref (ad 11), .int v1_7, .int t0_50]) (rest := []) (wT cI ad size rc g fs st ln su rr cr bc_7 bl_7 (f_X3_put 16 td_7 v1_7 0) (f_X3_put 16 fi_7 v1_7 t0_50) fa) ⟨hx, hb, hml, hown, hts⟩ (K_X3_put l D cI cZ (ad 11) 16 (by decide) H.size fi_7 v1_7 t0_50 _ rfl) ⟨va_cnB (host := RX3) 3 hts gX2_start_X3_put_n60 rfl rfl rfl (hK.2 (RX2, 60, yX3_put) (by decide)) (hts (.initialized RX3) (by decide +kernel)) (by decide +kernel) ⟨Nat.le_of_ble_eq_true rfl, Nat.le_of_ble_eq_true rfl⟩, hts (.static yX3_put) (by decide +kernel), trivial⟩ hK hP hD hS hA hl.1 [11] (by decide) rfl rfl rfl rfl rfl (Nat.le_of_ble_eq_true rfl) dX2_start_50 ⟨Nat.le_of_ble_eq_true rfl, Nat.le_of_ble_eq_true rfl⟩ (fun H locs hP hD hS => ?_)
          refine lv_aload_n hx hb dX2_start_53 rfl (lv_at hl 0 rfl) ?_
          refine va_get (D := D) (ci := 2) (v := .ref (ad 0)) (C := RX2) (T := TX2) (N := 6) hx hb hts hinX2 hown hK.1 hP 8 rfl rfl 0 (by decide) (hts (.fieldLink RX2 24 "Gridpuzzle$Trying" "board" "LGridpuzzle$Board;") (by decide +kernel)) (fun _ h9 => h9) rfl dX2_start_54 ?_
          refine lv_iload_n hx hb dX2_start_57 rfl (lv_at hl 1 rfl) ?_
          refine clV_i (As := [.int v1_7]) (rest := []) (wT cI ad size rc g fs st ln su rr cr bc_7 bl_7 (f_X3_put 16 td_7 v1_7 0) (f_X3_put 16 fi_7 v1_7 t0_50) fa) ⟨hx, hb, hml, hown, hts⟩ (K_X0_isBlank l D cI cZ ad H.size size rc g fs st ln su rr cr v1_7 _ rfl) (cwV 1 hts gX2_start_X0_isBlank rfl rfl rfl (by decide +kernel) ⟨Nat.le_of_ble_eq_true rfl, Nat.le_of_ble_eq_true rfl⟩) hK hP hD hS hA hl.1 [0, 1, 2, 3, 4, 5, 6, 7] (by decide) rfl rfl rfl 0 0 rfl rfl rfl rfl rfl (Nat.le_of_ble_eq_true rfl) dX2_start_58 ⟨Nat.le_of_ble_eq_true rfl, Nat.le_of_ble_eq_true rfl⟩ (fun H locs hP hD hS => ?_)
          obtain ⟨k86, hk86, hf⟩ := jn_some hf
          have w86 : ∀ (bc_86 : Int32) (bl_86 : Nat → Int32), k86 bc_86 bl_86 = some r → ∀ (H : Heap) (locs : List Loc) (ls : Array Slot), va_P D vwCl (wT cI ad size rc g fs st ln su rr cr bc_86 bl_86 (f_X3_put 16 td_7 v1_7 0) (f_X3_put 16 fi_7 v1_7 t0_50) fa) H → va_D A (wT cI ad size rc g fs st ln su rr cr bc_86 bl_86 (f_X3_put 16 td_7 v1_7 0) (f_X3_put 16 fi_7 v1_7 t0_50) fa) → va_S A s.heap H locs → lv_has ls 2 [(0, .ref (ad 8)), (1, .int v1_7)] → W p l e rm_X2_start s m args below meth c H locs 0 0 Q (F0 m 86 ls []) := by
            intro bc_86 bl_86 hf H locs ls hP hD hS hl
            rw [hk86] at hf
            try dsimp only at hf
            refine lv_iinc (v := (v1_7 + 1)) (lv' := [(1, .int (v1_7 + 1)), (0, .ref (ad 8))]) hx hb dX2_start_86 hl (k := 1) rfl rfl (by decide) rfl (fun ls hl => ?_)
            refine lv_goto (tgt := 7) hx hb dX2_start_89 (by decide) ?_
            exact ih7 (v1_7 + 1) bc_86 bl_86 (f_X3_put 16 td_7 v1_7 0) (f_X3_put 16 fi_7 v1_7 t0_50) hf _ _ _ hP hD hS (lv_sub hl [1, 0] rfl)
          refine lv_if_eq (tgt := 86) hx hb dX2_start_61 (by decide) (fun c_61 => ?_) (fun c_61 => ?_)
          · have hf := ite_t c_61 hf
            exact w86 bc_7 bl_7 hf _ _ _ hP hD hS (lv_sub hl [0, 1] rfl)
          · have hf := ite_f c_61 hf
            refine lv_aload_n hx hb dX2_start_64 rfl (lv_at hl 0 rfl) ?_
            refine va_get (D := D) (ci := 2) (v := .ref (ad 9)) (C := RX2) (T := TX2) (N := 6) hx hb hts hinX2 hown hK.1 hP 8 rfl rfl 2 (by decide) (hts (.fieldLink RX2 9 "Gridpuzzle$Trying" "blanks" "[I") (by decide +kernel)) (fun _ h9 => h9) rfl dX2_start_65 ?_
            refine lv_aload_n hx hb dX2_start_68 rfl (lv_at hl 0 rfl) ?_
            refine va_get (D := D) (ci := 2) (v := .int bc_7) (C := RX2) (T := TX2) (N := 6) hx hb hts hinX2 hown hK.1 hP 8 rfl rfl 1 (by decide) (hts (.fieldLink RX2 31 "Gridpuzzle$Trying" "blankCount" "I") (by decide +kernel)) (fun _ h9 => h9) rfl dX2_start_69 ?_
            refine lv_iload_n hx hb dX2_start_72 rfl (lv_at hl 1 rfl) ?_
            refine clN_v (As := [.ref (ad 9), .int bc_7, .int v1_7]) (rest := []) (wT cI ad size rc g fs st ln su rr cr bc_7 (f_X3_put 16 bl_7 bc_7 v1_7) (f_X3_put 16 td_7 v1_7 0) (f_X3_put 16 fi_7 v1_7 t0_50) fa) ⟨hx, hb, hml, hown, hts⟩ (K_X3_put l D cI cZ (ad 9) 16 (by decide) H.size bl_7 bc_7 v1_7 _ rfl) ⟨va_cnB (host := RX3) 3 hts gX2_start_X3_put_n60 rfl rfl rfl (hK.2 (RX2, 60, yX3_put) (by decide)) (hts (.initialized RX3) (by decide +kernel)) (by decide +kernel) ⟨Nat.le_of_ble_eq_true rfl, Nat.le_of_ble_eq_true rfl⟩, hts (.static yX3_put) (by decide +kernel), trivial⟩ hK hP hD hS hA hl.1 [9] (by decide) rfl rfl rfl rfl rfl (Nat.le_of_ble_eq_true rfl) dX2_start_73 ⟨Nat.le_of_ble_eq_true rfl, Nat.le_of_ble_eq_true rfl⟩ (fun H locs hP hD hS => ?_)
            refine lv_aload_n hx hb dX2_start_76 rfl (lv_at hl 0 rfl) ?_
            refine lv_dup hx hb dX2_start_77 rfl ?_
            refine va_get (D := D) (ci := 2) (v := .int bc_7) (C := RX2) (T := TX2) (N := 6) hx hb hts hinX2 hown hK.1 hP 8 rfl rfl 1 (by decide) (hts (.fieldLink RX2 31 "Gridpuzzle$Trying" "blankCount" "I") (by decide +kernel)) (fun _ h9 => h9) rfl dX2_start_78 ?_
            refine lv_iconst (v := 1) hx hb dX2_start_81 (by decide) ?_
            refine lv_iadd hx hb dX2_start_82 ?_
            refine va_put (D := D) (ci := 2) (v := .int (bc_7 + 1)) (ty := .int) (C := RX2) (T := TX2) (N := 6) hx hb hts hinX2 tyX2 tyX2_ok nmX2 hown hK.1 hP hD hS 8 rfl rfl 1 (by decide) (hts (.fieldLink RX2 31 "Gridpuzzle$Trying" "blankCount" "I") (by decide +kernel)) (fun _ h9 => h9) rfl (by decide +kernel) rfl rfl (Nat.le_of_ble_eq_true rfl) dX2_start_83 (fun H locs hP hD hS => ?_)
            have hP : va_P D vwCl (wT cI ad size rc g fs st ln su rr cr (bc_7 + 1) (f_X3_put 16 bl_7 bc_7 v1_7) (f_X3_put 16 td_7 v1_7 0) (f_X3_put 16 fi_7 v1_7 t0_50) fa) H := hP
            have hD : va_D A (wT cI ad size rc g fs st ln su rr cr (bc_7 + 1) (f_X3_put 16 bl_7 bc_7 v1_7) (f_X3_put 16 td_7 v1_7 0) (f_X3_put 16 fi_7 v1_7 t0_50) fa) := hD
            exact w86 (bc_7 + 1) (f_X3_put 16 bl_7 bc_7 v1_7) hf _ _ _ hP hD hS (lv_sub hl [0, 1] rfl)
        refine lv_if_eq (tgt := 49) hx hb dX2_start_35 (by decide) (fun c_35 => ?_) (fun c_35 => ?_)
        · have hf := ite_t c_35 hf
          refine lv_iconst (v := 0) hx hb dX2_start_49 (by decide) ?_
          exact w50 0 hf _ _ _ hP hD hS (lv_sub hl [0, 1] rfl)
        · have hf := ite_f c_35 hf
          refine lv_aload_n hx hb dX2_start_38 rfl (lv_at hl 0 rfl) ?_
          refine va_get (D := D) (ci := 2) (v := .ref (ad 0)) (C := RX2) (T := TX2) (N := 6) hx hb hts hinX2 hown hK.1 hP 8 rfl rfl 0 (by decide) (hts (.fieldLink RX2 24 "Gridpuzzle$Trying" "board" "LGridpuzzle$Board;") (by decide +kernel)) (fun _ h9 => h9) rfl dX2_start_39 ?_
          refine lv_iload_n hx hb dX2_start_42 rfl (lv_at hl 1 rfl) ?_
          refine clV_i (As := [.int v1_7]) (rest := [.int v1_7, .ref (ad 11)]) (wT cI ad size rc g fs st ln su rr cr bc_7 bl_7 (f_X3_put 16 td_7 v1_7 0) fi_7 fa) ⟨hx, hb, hml, hown, hts⟩ (K_X0_givenAt l D cI cZ ad H.size size rc g fs st ln su rr cr v1_7 _ rfl) (cwV 1 hts gX2_start_X0_givenAt rfl rfl rfl (by decide +kernel) ⟨Nat.le_of_ble_eq_true rfl, Nat.le_of_ble_eq_true rfl⟩) hK hP hD hS hA hl.1 [0, 1, 2, 3, 4, 5, 6, 7] (by decide) rfl rfl rfl 0 0 rfl rfl rfl rfl rfl (Nat.le_of_ble_eq_true rfl) dX2_start_43 ⟨Nat.le_of_ble_eq_true rfl, Nat.le_of_ble_eq_true rfl⟩ (fun H locs hP hD hS => ?_)
          refine lv_goto (tgt := 50) hx hb dX2_start_46 (by decide) ?_
          exact w50 (f_X0_givenAt g v1_7) hf _ _ _ hP hD hS (lv_sub hl [0, 1] rfl)
  exact l7 N 0 0 bl td fi hf _ _ _ hP hD hS (lv_sub hl [1, 0] rfl)
def rm_X2_suits : Room := { frames := 2, cells := 0, slots := 0, locals := 43 }
set_option maxRecDepth 100000 in
set_option maxHeartbeats 8000000 in
theorem K_X2_suits (l : Launch) (D : va_G) (cI cZ : ClassId) (ad : Nat → Nat) (sz : Nat) (N : Nat) (size rc : Int32) (g fs st ln su rr cr : Nat → Int32) (bc : Int32) (bl td fi fa : Nat → Int32) (p1 : Int32) (p2 : Int32) (r : (Int32)) (hf : f_X2_suits N fs st ln su fi p1 p2 = some r) : Met l yX2_suits wsX2_suits rm_X2_suits (PC D cI cZ sz [.ref (ad 8), .int p1, .int p2] (wT cI ad size rc g fs st ln su rr cr bc bl td fi fa)) (QI D cI cZ sz (wT cI ad size rc g fs st ln su rr cr bc bl td fi fa) r (wT cI ad size rc g fs st ln su rr cr bc bl td fi fa)) 0 0 (va_A (wT cI ad size rc g fs st ln su rr cr bc bl td fi fa) sz) := by
  refine mk_z (cc := cX2_suits) (maxL := 8) (lv0 := [(0, .ref (ad 8)), (1, .int p1), (2, .int p2)]) (by decide) rfl (Nat.le_of_ble_eq_true rfl) rfl ?_
  intro p e s m args below meth c ls A Q H hx hb hml hown hts hK hP hD hA hS hl hR
  have hinX2 : ∀ w ∈ wsX20, w ∈ wsX2_suits := by decide +kernel
  rw [f_X2_suits] at hf
  refine lv_iload_n hx hb dX2_suits_0 rfl (lv_at hl 1 rfl) ?_
  refine lv_iconst (v := (-1)) hx hb dX2_suits_1 (by decide) ?_
  refine lv_icmp_ne (tgt := 7) hx hb dX2_suits_2 (by decide) (fun c_2 => ?_) (fun c_2 => ?_)
  · have hf := ite_f c_2 hf
    refine lv_iconst (v := 0) hx hb dX2_suits_7 (by decide) ?_
    refine lv_istore_n (lv' := [(3, .int 0), (0, .ref (ad 8)), (1, .int p1), (2, .int p2)]) hx hb dX2_suits_8 rfl hl (by decide) rfl (fun ls hl => ?_)
    refine lv_iload_n hx hb dX2_suits_9 rfl (lv_at hl 3 rfl) ?_
    refine lv_istore (lv' := [(4, .int p2), (3, .int 0), (0, .ref (ad 8)), (1, .int p1), (2, .int p2)]) hx hb dX2_suits_10 hl (by decide) rfl (fun ls hl => ?_)
    refine lv_aload_n hx hb dX2_suits_12 rfl (lv_at hl 2 rfl) ?_
    refine va_get (D := D) (ci := 2) (v := .ref (ad 0)) (C := RX2) (T := TX2) (N := 6) hx hb hts hinX2 hown hK.1 hP 8 rfl rfl 0 (by decide) (hts (.fieldLink RX2 24 "Gridpuzzle$Trying" "board" "LGridpuzzle$Board;") (by decide +kernel)) (fun _ h9 => h9) rfl dX2_suits_13 ?_
    refine lv_iload_n hx hb dX2_suits_16 rfl (lv_at hl 3 rfl) ?_
    refine clV_i (As := [.int p1]) (rest := []) (wT cI ad size rc g fs st ln su rr cr bc bl td fi fa) ⟨hx, hb, hml, hown, hts⟩ (K_X0_lengthAt l D cI cZ ad H.size size rc g fs st ln su rr cr p1 _ rfl) (cwV 1 hts gX2_suits_X0_lengthAt rfl rfl rfl (by decide +kernel) ⟨Nat.le_of_ble_eq_true rfl, Nat.le_of_ble_eq_true rfl⟩) hK hP hD hS hA hl.1 [0, 1, 2, 3, 4, 5, 6, 7] (by decide) rfl rfl rfl 0 0 rfl rfl rfl rfl rfl (Nat.le_of_ble_eq_true rfl) dX2_suits_17 ⟨Nat.le_of_ble_eq_true rfl, Nat.le_of_ble_eq_true rfl⟩ (fun H locs hP hD hS => ?_)
    refine lv_istore (lv' := [(5, .int (f_X0_lengthAt ln p1)), (4, .int p2), (3, .int 0), (0, .ref (ad 8)), (1, .int p1), (2, .int p2)]) hx hb dX2_suits_20 hl (by decide) rfl (fun ls hl => ?_)
    refine lv_iconst (v := 0) hx hb dX2_suits_22 (by decide) ?_
    refine lv_istore (lv' := [(6, .int 0), (5, .int (f_X0_lengthAt ln p1)), (4, .int p2), (3, .int 0), (0, .ref (ad 8)), (1, .int p1), (2, .int p2)]) hx hb dX2_suits_23 hl (by decide) rfl (fun ls hl => ?_)
    obtain ⟨k80, hk80, hf⟩ := jn_some hf
    have w80 : ∀ (v3_80 : Int32) (v4_80 : Int32), k80 v3_80 v4_80 = some r → ∀ (H : Heap) (locs : List Loc) (ls : Array Slot), va_P D vwCl (wT cI ad size rc g fs st ln su rr cr bc bl td fi fa) H → va_D A (wT cI ad size rc g fs st ln su rr cr bc bl td fi fa) → va_S A s.heap H locs → lv_has ls 8 [(0, .ref (ad 8)), (1, .int p1), (3, .int v3_80), (4, .int v4_80)] → W p l e rm_X2_suits s m args below meth c H locs 0 0 Q (F0 m 80 ls []) := by
      intro v3_80 v4_80 hf H locs ls hP hD hS hl
      rw [hk80] at hf
      try dsimp only at hf
      refine lv_aload_n hx hb dX2_suits_80 rfl (lv_at hl 0 rfl) ?_
      refine va_get (D := D) (ci := 2) (v := .ref (ad 0)) (C := RX2) (T := TX2) (N := 6) hx hb hts hinX2 hown hK.1 hP 8 rfl rfl 0 (by decide) (hts (.fieldLink RX2 24 "Gridpuzzle$Trying" "board" "LGridpuzzle$Board;") (by decide +kernel)) (fun _ h9 => h9) rfl dX2_suits_81 ?_
      refine lv_iload_n hx hb dX2_suits_84 rfl (lv_at hl 1 rfl) ?_
      refine clV_i (As := [.int p1]) (rest := []) (wT cI ad size rc g fs st ln su rr cr bc bl td fi fa) ⟨hx, hb, hml, hown, hts⟩ (K_X0_sumAt l D cI cZ ad H.size size rc g fs st ln su rr cr p1 _ rfl) (cwV 1 hts gX2_suits_X0_sumAt rfl rfl rfl (by decide +kernel) ⟨Nat.le_of_ble_eq_true rfl, Nat.le_of_ble_eq_true rfl⟩) hK hP hD hS hA hl.1 [0, 1, 2, 3, 4, 5, 6, 7] (by decide) rfl rfl rfl 0 0 rfl rfl rfl rfl rfl (Nat.le_of_ble_eq_true rfl) dX2_suits_85 ⟨Nat.le_of_ble_eq_true rfl, Nat.le_of_ble_eq_true rfl⟩ (fun H locs hP hD hS => ?_)
      refine lv_istore (lv' := [(6, .int (f_X0_sumAt su p1)), (0, .ref (ad 8)), (1, .int p1), (3, .int v3_80), (4, .int v4_80)]) hx hb dX2_suits_88 hl (by decide) rfl (fun ls hl => ?_)
      refine lv_iload hx hb dX2_suits_90 (lv_at hl 0 rfl) ?_
      refine lv_if_ne (tgt := 97) hx hb dX2_suits_92 (by decide) (fun c_92 => ?_) (fun c_92 => ?_)
      · have hf := ite_f c_92 hf
        refine lv_iload_n hx hb dX2_suits_97 rfl (lv_at hl 3 rfl) ?_
        refine lv_iconst (v := 1) hx hb dX2_suits_98 (by decide) ?_
        refine lv_icmp_le (tgt := 117) hx hb dX2_suits_99 (by decide) (fun c_99 => ?_) (fun c_99 => ?_)
        · have hf := ite_t c_99 hf
          refine lv_iload hx hb dX2_suits_117 (lv_at hl 4 rfl) ?_
          refine lv_iload hx hb dX2_suits_119 (lv_at hl 0 rfl) ?_
          refine lv_icmp_ne (tgt := 128) hx hb dX2_suits_121 (by decide) (fun c_121 => ?_) (fun c_121 => ?_)
          · have hf := ite_f c_121 hf
            refine lv_iconst (v := 0) hx hb dX2_suits_128 (by decide) ?_
            cases hf
            exact hR _ _ _ _ _ _ (by decide) rfl rfl hP hD hS dX2_suits_129
          · have hf := ite_t c_121 hf
            refine lv_iconst (v := 1) hx hb dX2_suits_124 (by decide) ?_
            refine lv_goto (tgt := 129) hx hb dX2_suits_125 (by decide) ?_
            cases hf
            exact hR _ _ _ _ _ _ (by decide) rfl rfl hP hD hS dX2_suits_129
        · have hf := ite_f c_99 hf
          refine lv_iload hx hb dX2_suits_102 (lv_at hl 4 rfl) ?_
          refine lv_iload hx hb dX2_suits_104 (lv_at hl 0 rfl) ?_
          refine lv_icmp_gt (tgt := 113) hx hb dX2_suits_106 (by decide) (fun c_106 => ?_) (fun c_106 => ?_)
          · have hf := ite_t c_106 hf
            refine lv_iconst (v := 0) hx hb dX2_suits_113 (by decide) ?_
            refine lv_goto (tgt := 129) hx hb dX2_suits_114 (by decide) ?_
            cases hf
            exact hR _ _ _ _ _ _ (by decide) rfl rfl hP hD hS dX2_suits_129
          · have hf := ite_f c_106 hf
            refine lv_iconst (v := 1) hx hb dX2_suits_109 (by decide) ?_
            refine lv_goto (tgt := 129) hx hb dX2_suits_110 (by decide) ?_
            cases hf
            exact hR _ _ _ _ _ _ (by decide) rfl rfl hP hD hS dX2_suits_129
      · have hf := ite_t c_92 hf
        refine lv_iconst (v := 1) hx hb dX2_suits_95 (by decide) ?_
        cases hf
        exact hR _ _ _ _ _ _ (by decide) rfl rfl hP hD hS dX2_suits_96
    have l25 : ∀ (nn : Nat) (v3_25 : Int32) (v4_25 : Int32) (v6_25 : Int32), f_X2_suits_L25 p1 p2 (f_X0_lengthAt ln p1) fs st fi k80 nn v3_25 v4_25 v6_25 = some r → ∀ (H : Heap) (locs : List Loc) (ls : Array Slot), va_P D vwCl (wT cI ad size rc g fs st ln su rr cr bc bl td fi fa) H → va_D A (wT cI ad size rc g fs st ln su rr cr bc bl td fi fa) → va_S A s.heap H locs → lv_has ls 8 [(0, .ref (ad 8)), (1, .int p1), (2, .int p2), (3, .int v3_25), (4, .int v4_25), (5, .int (f_X0_lengthAt ln p1)), (6, .int v6_25)] → W p l e rm_X2_suits s m args below meth c H locs 0 0 Q (F0 m 25 ls []) := by
      intro nn
      induction nn with
      | zero => intro _ _ _ hf; exact nomatch (show (none : Option _) = some r from hf)
      | succ n25 ih25 =>
        intro v3_25 v4_25 v6_25 hf H locs ls hP hD hS hl
        rw [f_X2_suits_L25.eq_2] at hf
        refine lv_iload hx hb dX2_suits_25 (lv_at hl 6 rfl) ?_
        refine lv_iload hx hb dX2_suits_27 (lv_at hl 5 rfl) ?_
        refine lv_icmp_ge (tgt := 80) hx hb dX2_suits_29 (by decide) (fun c_29 => ?_) (fun c_29 => ?_)
        · have hf := ite_t c_29 hf
          exact w80 v3_25 v4_25 hf _ _ _ hP hD hS (lv_sub hl [0, 1, 3, 4] rfl)
        · have hf := ite_f c_29 hf
          refine lv_aload_n hx hb dX2_suits_32 rfl (lv_at hl 0 rfl) ?_
          refine va_get (D := D) (ci := 2) (v := .ref (ad 11)) (C := RX2) (T := TX2) (N := 6) hx hb hts hinX2 hown hK.1 hP 8 rfl rfl 4 (by decide) (hts (.fieldLink RX2 18 "Gridpuzzle$Trying" "filling" "[I") (by decide +kernel)) (fun _ h9 => h9) rfl dX2_suits_33 ?_
          refine lv_aload_n hx hb dX2_suits_36 rfl (lv_at hl 0 rfl) ?_
          refine va_get (D := D) (ci := 2) (v := .ref (ad 0)) (C := RX2) (T := TX2) (N := 6) hx hb hts hinX2 hown hK.1 hP 8 rfl rfl 0 (by decide) (hts (.fieldLink RX2 24 "Gridpuzzle$Trying" "board" "LGridpuzzle$Board;") (by decide +kernel)) (fun _ h9 => h9) rfl dX2_suits_37 ?_
          refine lv_iload_n hx hb dX2_suits_40 rfl (lv_at hl 1 rfl) ?_
          refine lv_iload hx hb dX2_suits_41 (lv_at hl 6 rfl) ?_
          refine clV_i (As := [.int p1, .int v6_25]) (rest := [.ref (ad 11)]) (wT cI ad size rc g fs st ln su rr cr bc bl td fi fa) ⟨hx, hb, hml, hown, hts⟩ (K_X0_cellAt l D cI cZ ad H.size size rc g fs st ln su rr cr p1 v6_25 _ rfl) (cwV 2 hts gX2_suits_X0_cellAt rfl rfl rfl (by decide +kernel) ⟨Nat.le_of_ble_eq_true rfl, Nat.le_of_ble_eq_true rfl⟩) hK hP hD hS hA hl.1 [0, 1, 2, 3, 4, 5, 6, 7] (by decide) rfl rfl rfl 0 0 rfl rfl rfl rfl rfl (Nat.le_of_ble_eq_true rfl) dX2_suits_43 ⟨Nat.le_of_ble_eq_true rfl, Nat.le_of_ble_eq_true rfl⟩ (fun H locs hP hD hS => ?_)
          refine clN_i (As := [.ref (ad 11), .int (f_X0_cellAt fs st p1 v6_25)]) (rest := []) (wT cI ad size rc g fs st ln su rr cr bc bl td fi fa) ⟨hx, hb, hml, hown, hts⟩ (K_X3_at l D cI cZ (ad 11) 16 (by decide) H.size fi (f_X0_cellAt fs st p1 v6_25) _ rfl) ⟨va_cnB (host := RX3) 2 hts gX2_suits_X3_at_n41 rfl rfl rfl (hK.2 (RX2, 41, yX3_at) (by decide)) (hts (.initialized RX3) (by decide +kernel)) (by decide +kernel) ⟨Nat.le_of_ble_eq_true rfl, Nat.le_of_ble_eq_true rfl⟩, hts (.static yX3_at) (by decide +kernel), trivial⟩ hK hP hD hS hA hl.1 [11] (by decide) rfl rfl rfl rfl rfl (Nat.le_of_ble_eq_true rfl) dX2_suits_46 ⟨Nat.le_of_ble_eq_true rfl, Nat.le_of_ble_eq_true rfl⟩ (fun H locs hP hD hS => ?_)
          refine lv_istore (lv' := [(7, .int (f_X3_at 16 fi (f_X0_cellAt fs st p1 v6_25))), (0, .ref (ad 8)), (1, .int p1), (2, .int p2), (3, .int v3_25), (4, .int v4_25), (5, .int (f_X0_lengthAt ln p1)), (6, .int v6_25)]) hx hb dX2_suits_49 hl (by decide) rfl (fun ls hl => ?_)
          refine lv_iload hx hb dX2_suits_51 (lv_at hl 0 rfl) ?_
          refine lv_iload_n hx hb dX2_suits_53 rfl (lv_at hl 3 rfl) ?_
          refine lv_icmp_ne (tgt := 59) hx hb dX2_suits_54 (by decide) (fun c_54 => ?_) (fun c_54 => ?_)
          · have hf := ite_f c_54 hf
            refine lv_iload hx hb dX2_suits_59 (lv_at hl 0 rfl) ?_
            obtain ⟨k67, hk67, hf⟩ := jn_some hf
            have w67 : ∀ (v3_67 : Int32), k67 v3_67 = some r → ∀ (H : Heap) (locs : List Loc) (ls : Array Slot), va_P D vwCl (wT cI ad size rc g fs st ln su rr cr bc bl td fi fa) H → va_D A (wT cI ad size rc g fs st ln su rr cr bc bl td fi fa) → va_S A s.heap H locs → lv_has ls 8 [(0, .ref (ad 8)), (1, .int p1), (2, .int p2), (3, .int v3_67), (4, .int v4_25), (5, .int (f_X0_lengthAt ln p1)), (6, .int v6_25), (7, .int (f_X3_at 16 fi (f_X0_cellAt fs st p1 v6_25)))] → W p l e rm_X2_suits s m args below meth c H locs 0 0 Q (F0 m 67 ls []) := by
              intro v3_67 hf H locs ls hP hD hS hl
              rw [hk67] at hf
              try dsimp only at hf
              refine lv_iload hx hb dX2_suits_67 (lv_at hl 4 rfl) ?_
              refine lv_iload hx hb dX2_suits_69 (lv_at hl 7 rfl) ?_
              refine lv_iadd hx hb dX2_suits_71 ?_
              refine lv_istore (lv' := [(4, .int (v4_25 + (f_X3_at 16 fi (f_X0_cellAt fs st p1 v6_25)))), (0, .ref (ad 8)), (1, .int p1), (2, .int p2), (3, .int v3_67), (5, .int (f_X0_lengthAt ln p1)), (6, .int v6_25), (7, .int (f_X3_at 16 fi (f_X0_cellAt fs st p1 v6_25)))]) hx hb dX2_suits_72 hl (by decide) rfl (fun ls hl => ?_)
              refine lv_iinc (v := (v6_25 + 1)) (lv' := [(6, .int (v6_25 + 1)), (4, .int (v4_25 + (f_X3_at 16 fi (f_X0_cellAt fs st p1 v6_25)))), (0, .ref (ad 8)), (1, .int p1), (2, .int p2), (3, .int v3_67), (5, .int (f_X0_lengthAt ln p1)), (7, .int (f_X3_at 16 fi (f_X0_cellAt fs st p1 v6_25)))]) hx hb dX2_suits_74 hl (k := 6) rfl rfl (by decide) rfl (fun ls hl => ?_)
              refine lv_goto (tgt := 25) hx hb dX2_suits_77 (by decide) ?_
              exact ih25 v3_67 (v4_25 + (f_X3_at 16 fi (f_X0_cellAt fs st p1 v6_25))) (v6_25 + 1) hf _ _ _ hP hD hS (lv_sub hl [2, 3, 4, 5, 1, 6, 0] rfl)
            refine lv_if_ne (tgt := 67) hx hb dX2_suits_61 (by decide) (fun c_61 => ?_) (fun c_61 => ?_)
            · have hf := ite_f c_61 hf
              exact w67 v3_25 hf _ _ _ hP hD hS (lv_sub hl [1, 2, 3, 4, 5, 6, 7, 0] rfl)
            · have hf := ite_t c_61 hf
              refine lv_iinc (v := (v3_25 + 1)) (lv' := [(3, .int (v3_25 + 1)), (7, .int (f_X3_at 16 fi (f_X0_cellAt fs st p1 v6_25))), (0, .ref (ad 8)), (1, .int p1), (2, .int p2), (4, .int v4_25), (5, .int (f_X0_lengthAt ln p1)), (6, .int v6_25)]) hx hb dX2_suits_64 hl (k := 4) rfl rfl (by decide) rfl (fun ls hl => ?_)
              exact w67 (v3_25 + 1) hf _ _ _ hP hD hS (lv_sub hl [2, 3, 4, 0, 5, 6, 7, 1] rfl)
          · have hf := ite_t c_54 hf
            refine lv_iconst (v := 0) hx hb dX2_suits_57 (by decide) ?_
            cases hf
            exact hR _ _ _ _ _ _ (by decide) rfl rfl hP hD hS dX2_suits_58
    exact l25 N 0 p2 0 hf _ _ _ hP hD hS (lv_sub hl [4, 5, 6, 3, 2, 1, 0] rfl)
  · have hf := ite_t c_2 hf
    refine lv_iconst (v := 1) hx hb dX2_suits_5 (by decide) ?_
    cases hf
    exact hR _ _ _ _ _ _ (by decide) rfl rfl hP hD hS dX2_suits_6
def rm_X2_tryNext : Room := { frames := 3, cells := 0, slots := 0, locals := 70 }
set_option maxRecDepth 100000 in
set_option maxHeartbeats 8000000 in
theorem K_X2_tryNext (l : Launch) (D : va_G) (cI cZ : ClassId) (ad : Nat → Nat) (sz : Nat) (N : Nat) (size rc : Int32) (g fs st ln su rr cr : Nat → Int32) (bc : Int32) (bl td fi fa : Nat → Int32) (p1 : Int32) (r : (Int32 × (Nat → Int32) × (Nat → Int32))) (hf : f_X2_tryNext N fs st ln su rr cr td fi p1 = some r) : Met l yX2_tryNext wsX2_tryNext rm_X2_tryNext (PC D cI cZ sz [.ref (ad 8), .int p1] (wT cI ad size rc g fs st ln su rr cr bc bl td fi fa)) (QI D cI cZ sz (wT cI ad size rc g fs st ln su rr cr bc bl td fi fa) r.1 (wT cI ad size rc g fs st ln su rr cr bc bl r.2.1 r.2.2 fa)) 0 0 (va_A (wT cI ad size rc g fs st ln su rr cr bc bl td fi fa) sz) := by
  refine mk_z (cc := cX2_tryNext) (maxL := 3) (lv0 := [(0, .ref (ad 8)), (1, .int p1)]) (by decide) rfl (Nat.le_of_ble_eq_true rfl) rfl ?_
  intro p e s m args below meth c ls A Q H hx hb hml hown hts hK hP hD hA hS hl hR
  have hinX2 : ∀ w ∈ wsX20, w ∈ wsX2_tryNext := by decide +kernel
  rw [f_X2_tryNext] at hf
  refine lv_aload_n hx hb dX2_tryNext_0 rfl (lv_at hl 0 rfl) ?_
  refine va_get (D := D) (ci := 2) (v := .ref (ad 10)) (C := RX2) (T := TX2) (N := 6) hx hb hts hinX2 hown hK.1 hP 8 rfl rfl 3 (by decide) (hts (.fieldLink RX2 15 "Gridpuzzle$Trying" "tried" "[I") (by decide +kernel)) (fun _ h9 => h9) rfl dX2_tryNext_1 ?_
  refine lv_iload_n hx hb dX2_tryNext_4 rfl (lv_at hl 1 rfl) ?_
  refine clN_i (As := [.ref (ad 10), .int p1]) (rest := []) (wT cI ad size rc g fs st ln su rr cr bc bl td fi fa) ⟨hx, hb, hml, hown, hts⟩ (K_X3_at l D cI cZ (ad 10) 16 (by decide) H.size td p1 _ rfl) ⟨va_cnB (host := RX3) 2 hts gX2_tryNext_X3_at_n41 rfl rfl rfl (hK.2 (RX2, 41, yX3_at) (by decide)) (hts (.initialized RX3) (by decide +kernel)) (by decide +kernel) ⟨Nat.le_of_ble_eq_true rfl, Nat.le_of_ble_eq_true rfl⟩, hts (.static yX3_at) (by decide +kernel), trivial⟩ hK hP hD hS hA hl.1 [10] (by decide) rfl rfl rfl rfl rfl (Nat.le_of_ble_eq_true rfl) dX2_tryNext_5 ⟨Nat.le_of_ble_eq_true rfl, Nat.le_of_ble_eq_true rfl⟩ (fun H locs hP hD hS => ?_)
  refine lv_iconst (v := 1) hx hb dX2_tryNext_8 (by decide) ?_
  refine lv_iadd hx hb dX2_tryNext_9 ?_
  refine lv_istore_n (lv' := [(2, .int ((f_X3_at 16 td p1) + 1)), (0, .ref (ad 8)), (1, .int p1)]) hx hb dX2_tryNext_10 rfl hl (by decide) rfl (fun ls hl => ?_)
  refine lv_aload_n hx hb dX2_tryNext_11 rfl (lv_at hl 1 rfl) ?_
  refine va_get (D := D) (ci := 2) (v := .ref (ad 10)) (C := RX2) (T := TX2) (N := 6) hx hb hts hinX2 hown hK.1 hP 8 rfl rfl 3 (by decide) (hts (.fieldLink RX2 15 "Gridpuzzle$Trying" "tried" "[I") (by decide +kernel)) (fun _ h9 => h9) rfl dX2_tryNext_12 ?_
  refine lv_iload_n hx hb dX2_tryNext_15 rfl (lv_at hl 2 rfl) ?_
  refine lv_iload_n hx hb dX2_tryNext_16 rfl (lv_at hl 0 rfl) ?_
  refine clN_v (As := [.ref (ad 10), .int p1, .int ((f_X3_at 16 td p1) + 1)]) (rest := []) (wT cI ad size rc g fs st ln su rr cr bc bl (f_X3_put 16 td p1 ((f_X3_at 16 td p1) + 1)) fi fa) ⟨hx, hb, hml, hown, hts⟩ (K_X3_put l D cI cZ (ad 10) 16 (by decide) H.size td p1 ((f_X3_at 16 td p1) + 1) _ rfl) ⟨va_cnB (host := RX3) 3 hts gX2_tryNext_X3_put_n60 rfl rfl rfl (hK.2 (RX2, 60, yX3_put) (by decide)) (hts (.initialized RX3) (by decide +kernel)) (by decide +kernel) ⟨Nat.le_of_ble_eq_true rfl, Nat.le_of_ble_eq_true rfl⟩, hts (.static yX3_put) (by decide +kernel), trivial⟩ hK hP hD hS hA hl.1 [10] (by decide) rfl rfl rfl rfl rfl (Nat.le_of_ble_eq_true rfl) dX2_tryNext_17 ⟨Nat.le_of_ble_eq_true rfl, Nat.le_of_ble_eq_true rfl⟩ (fun H locs hP hD hS => ?_)
  refine lv_aload_n hx hb dX2_tryNext_20 rfl (lv_at hl 1 rfl) ?_
  refine va_get (D := D) (ci := 2) (v := .ref (ad 11)) (C := RX2) (T := TX2) (N := 6) hx hb hts hinX2 hown hK.1 hP 8 rfl rfl 4 (by decide) (hts (.fieldLink RX2 18 "Gridpuzzle$Trying" "filling" "[I") (by decide +kernel)) (fun _ h9 => h9) rfl dX2_tryNext_21 ?_
  refine lv_iload_n hx hb dX2_tryNext_24 rfl (lv_at hl 2 rfl) ?_
  refine lv_iconst (v := 0) hx hb dX2_tryNext_25 (by decide) ?_
  refine clN_v (As := [.ref (ad 11), .int p1, .int 0]) (rest := []) (wT cI ad size rc g fs st ln su rr cr bc bl (f_X3_put 16 td p1 ((f_X3_at 16 td p1) + 1)) (f_X3_put 16 fi p1 0) fa) ⟨hx, hb, hml, hown, hts⟩ (K_X3_put l D cI cZ (ad 11) 16 (by decide) H.size fi p1 0 _ rfl) ⟨va_cnB (host := RX3) 3 hts gX2_tryNext_X3_put_n60 rfl rfl rfl (hK.2 (RX2, 60, yX3_put) (by decide)) (hts (.initialized RX3) (by decide +kernel)) (by decide +kernel) ⟨Nat.le_of_ble_eq_true rfl, Nat.le_of_ble_eq_true rfl⟩, hts (.static yX3_put) (by decide +kernel), trivial⟩ hK hP hD hS hA hl.1 [11] (by decide) rfl rfl rfl rfl rfl (Nat.le_of_ble_eq_true rfl) dX2_tryNext_26 ⟨Nat.le_of_ble_eq_true rfl, Nat.le_of_ble_eq_true rfl⟩ (fun H locs hP hD hS => ?_)
  refine lv_aload_n hx hb dX2_tryNext_29 rfl (lv_at hl 1 rfl) ?_
  refine lv_aload_n hx hb dX2_tryNext_30 rfl (lv_at hl 1 rfl) ?_
  refine va_get (D := D) (ci := 2) (v := .ref (ad 0)) (C := RX2) (T := TX2) (N := 6) hx hb hts hinX2 hown hK.1 hP 8 rfl rfl 0 (by decide) (hts (.fieldLink RX2 24 "Gridpuzzle$Trying" "board" "LGridpuzzle$Board;") (by decide +kernel)) (fun _ h9 => h9) rfl dX2_tryNext_31 ?_
  refine lv_iload_n hx hb dX2_tryNext_34 rfl (lv_at hl 2 rfl) ?_
  refine clV_i (As := [.int p1]) (rest := [.ref (ad 8)]) (wT cI ad size rc g fs st ln su rr cr bc bl (f_X3_put 16 td p1 ((f_X3_at 16 td p1) + 1)) (f_X3_put 16 fi p1 0) fa) ⟨hx, hb, hml, hown, hts⟩ (K_X0_rowRunOf l D cI cZ ad H.size size rc g fs st ln su rr cr p1 _ rfl) (cwV 1 hts gX2_tryNext_X0_rowRunOf rfl rfl rfl (by decide +kernel) ⟨Nat.le_of_ble_eq_true rfl, Nat.le_of_ble_eq_true rfl⟩) hK hP hD hS hA hl.1 [0, 1, 2, 3, 4, 5, 6, 7] (by decide) rfl rfl rfl 0 0 rfl rfl rfl rfl rfl (Nat.le_of_ble_eq_true rfl) dX2_tryNext_35 ⟨Nat.le_of_ble_eq_true rfl, Nat.le_of_ble_eq_true rfl⟩ (fun H locs hP hD hS => ?_)
  refine lv_iload_n hx hb dX2_tryNext_38 rfl (lv_at hl 0 rfl) ?_
  obtain ⟨x39, hy39, hf⟩ := Option.bind_eq_some_iff.mp hf
  refine clV_i (As := [.int (f_X0_rowRunOf rr p1), .int ((f_X3_at 16 td p1) + 1)]) (rest := []) (wT cI ad size rc g fs st ln su rr cr bc bl (f_X3_put 16 td p1 ((f_X3_at 16 td p1) + 1)) (f_X3_put 16 fi p1 0) fa) ⟨hx, hb, hml, hown, hts⟩ (K_X2_suits l D cI cZ ad H.size N size rc g fs st ln su rr cr bc bl (f_X3_put 16 td p1 ((f_X3_at 16 td p1) + 1)) (f_X3_put 16 fi p1 0) fa (f_X0_rowRunOf rr p1) ((f_X3_at 16 td p1) + 1) _ hy39) (cwV 2 hts gX2_tryNext_X2_suits rfl rfl rfl (by decide +kernel) ⟨Nat.le_of_ble_eq_true rfl, Nat.le_of_ble_eq_true rfl⟩) hK hP hD hS hA hl.1 [0, 1, 2, 3, 4, 5, 6, 7, 8, 9, 10, 11, 12] (by decide) rfl rfl rfl 2 8 rfl rfl rfl rfl rfl (Nat.le_of_ble_eq_true rfl) dX2_tryNext_39 ⟨Nat.le_of_ble_eq_true rfl, Nat.le_of_ble_eq_true rfl⟩ (fun H locs hP hD hS => ?_)
  refine lv_if_eq (tgt := 61) hx hb dX2_tryNext_42 (by decide) (fun c_42 => ?_) (fun c_42 => ?_)
  · have hf := ite_t c_42 hf
    refine lv_iconst (v := 0) hx hb dX2_tryNext_61 (by decide) ?_
    cases hf
    exact hR _ _ _ _ _ _ (by decide) rfl rfl hP hD hS dX2_tryNext_62
  · have hf := ite_f c_42 hf
    refine lv_aload_n hx hb dX2_tryNext_45 rfl (lv_at hl 1 rfl) ?_
    refine lv_aload_n hx hb dX2_tryNext_46 rfl (lv_at hl 1 rfl) ?_
    refine va_get (D := D) (ci := 2) (v := .ref (ad 0)) (C := RX2) (T := TX2) (N := 6) hx hb hts hinX2 hown hK.1 hP 8 rfl rfl 0 (by decide) (hts (.fieldLink RX2 24 "Gridpuzzle$Trying" "board" "LGridpuzzle$Board;") (by decide +kernel)) (fun _ h9 => h9) rfl dX2_tryNext_47 ?_
    refine lv_iload_n hx hb dX2_tryNext_50 rfl (lv_at hl 2 rfl) ?_
    refine clV_i (As := [.int p1]) (rest := [.ref (ad 8)]) (wT cI ad size rc g fs st ln su rr cr bc bl (f_X3_put 16 td p1 ((f_X3_at 16 td p1) + 1)) (f_X3_put 16 fi p1 0) fa) ⟨hx, hb, hml, hown, hts⟩ (K_X0_columnRunOf l D cI cZ ad H.size size rc g fs st ln su rr cr p1 _ rfl) (cwV 1 hts gX2_tryNext_X0_columnRunOf rfl rfl rfl (by decide +kernel) ⟨Nat.le_of_ble_eq_true rfl, Nat.le_of_ble_eq_true rfl⟩) hK hP hD hS hA hl.1 [0, 1, 2, 3, 4, 5, 6, 7] (by decide) rfl rfl rfl 0 0 rfl rfl rfl rfl rfl (Nat.le_of_ble_eq_true rfl) dX2_tryNext_51 ⟨Nat.le_of_ble_eq_true rfl, Nat.le_of_ble_eq_true rfl⟩ (fun H locs hP hD hS => ?_)
    refine lv_iload_n hx hb dX2_tryNext_54 rfl (lv_at hl 0 rfl) ?_
    obtain ⟨x55, hy55, hf⟩ := Option.bind_eq_some_iff.mp hf
    refine clV_i (As := [.int (f_X0_columnRunOf cr p1), .int ((f_X3_at 16 td p1) + 1)]) (rest := []) (wT cI ad size rc g fs st ln su rr cr bc bl (f_X3_put 16 td p1 ((f_X3_at 16 td p1) + 1)) (f_X3_put 16 fi p1 0) fa) ⟨hx, hb, hml, hown, hts⟩ (K_X2_suits l D cI cZ ad H.size N size rc g fs st ln su rr cr bc bl (f_X3_put 16 td p1 ((f_X3_at 16 td p1) + 1)) (f_X3_put 16 fi p1 0) fa (f_X0_columnRunOf cr p1) ((f_X3_at 16 td p1) + 1) _ hy55) (cwV 2 hts gX2_tryNext_X2_suits rfl rfl rfl (by decide +kernel) ⟨Nat.le_of_ble_eq_true rfl, Nat.le_of_ble_eq_true rfl⟩) hK hP hD hS hA hl.1 [0, 1, 2, 3, 4, 5, 6, 7, 8, 9, 10, 11, 12] (by decide) rfl rfl rfl 2 8 rfl rfl rfl rfl rfl (Nat.le_of_ble_eq_true rfl) dX2_tryNext_55 ⟨Nat.le_of_ble_eq_true rfl, Nat.le_of_ble_eq_true rfl⟩ (fun H locs hP hD hS => ?_)
    refine lv_if_ne (tgt := 63) hx hb dX2_tryNext_58 (by decide) (fun c_58 => ?_) (fun c_58 => ?_)
    · have hf := ite_f c_58 hf
      refine lv_aload_n hx hb dX2_tryNext_63 rfl (lv_at hl 1 rfl) ?_
      refine va_get (D := D) (ci := 2) (v := .ref (ad 11)) (C := RX2) (T := TX2) (N := 6) hx hb hts hinX2 hown hK.1 hP 8 rfl rfl 4 (by decide) (hts (.fieldLink RX2 18 "Gridpuzzle$Trying" "filling" "[I") (by decide +kernel)) (fun _ h9 => h9) rfl dX2_tryNext_64 ?_
      refine lv_iload_n hx hb dX2_tryNext_67 rfl (lv_at hl 2 rfl) ?_
      refine lv_iload_n hx hb dX2_tryNext_68 rfl (lv_at hl 0 rfl) ?_
      refine clN_v (As := [.ref (ad 11), .int p1, .int ((f_X3_at 16 td p1) + 1)]) (rest := []) (wT cI ad size rc g fs st ln su rr cr bc bl (f_X3_put 16 td p1 ((f_X3_at 16 td p1) + 1)) (f_X3_put 16 (f_X3_put 16 fi p1 0) p1 ((f_X3_at 16 td p1) + 1)) fa) ⟨hx, hb, hml, hown, hts⟩ (K_X3_put l D cI cZ (ad 11) 16 (by decide) H.size (f_X3_put 16 fi p1 0) p1 ((f_X3_at 16 td p1) + 1) _ rfl) ⟨va_cnB (host := RX3) 3 hts gX2_tryNext_X3_put_n60 rfl rfl rfl (hK.2 (RX2, 60, yX3_put) (by decide)) (hts (.initialized RX3) (by decide +kernel)) (by decide +kernel) ⟨Nat.le_of_ble_eq_true rfl, Nat.le_of_ble_eq_true rfl⟩, hts (.static yX3_put) (by decide +kernel), trivial⟩ hK hP hD hS hA hl.1 [11] (by decide) rfl rfl rfl rfl rfl (Nat.le_of_ble_eq_true rfl) dX2_tryNext_69 ⟨Nat.le_of_ble_eq_true rfl, Nat.le_of_ble_eq_true rfl⟩ (fun H locs hP hD hS => ?_)
      refine lv_iconst (v := 1) hx hb dX2_tryNext_72 (by decide) ?_
      cases hf
      exact hR _ _ _ _ _ _ (by decide) rfl rfl hP hD hS dX2_tryNext_73
    · have hf := ite_t c_58 hf
      refine lv_iconst (v := 0) hx hb dX2_tryNext_61 (by decide) ?_
      cases hf
      exact hR _ _ _ _ _ _ (by decide) rfl rfl hP hD hS dX2_tryNext_62
def rm_X2_keepFirstAnswer : Room := { frames := 1, cells := 0, slots := 0, locals := 22 }
set_option maxRecDepth 100000 in
set_option maxHeartbeats 8000000 in
theorem K_X2_keepFirstAnswer (l : Launch) (D : va_G) (cI cZ : ClassId) (ad : Nat → Nat) (sz : Nat) (N : Nat) (size rc : Int32) (g fs st ln su rr cr : Nat → Int32) (bc : Int32) (bl td fi fa : Nat → Int32) (r : ((Nat → Int32))) (hf : f_X2_keepFirstAnswer N fi fa = some r) : Met l yX2_keepFirstAnswer wsX2_keepFirstAnswer rm_X2_keepFirstAnswer (PC D cI cZ sz [.ref (ad 8)] (wT cI ad size rc g fs st ln su rr cr bc bl td fi fa)) (QV D cI cZ sz (wT cI ad size rc g fs st ln su rr cr bc bl td fi fa) (wT cI ad size rc g fs st ln su rr cr bc bl td fi r)) 0 0 (va_A (wT cI ad size rc g fs st ln su rr cr bc bl td fi fa) sz) := by
  refine mk_v (cc := cX2_keepFirstAnswer) (maxL := 2) (lv0 := [(0, .ref (ad 8))]) (by decide) rfl (Nat.le_of_ble_eq_true rfl) rfl ?_
  intro p e s m args below meth c ls A Q H hx hb hml hown hts hK hP hD hA hS hl hR
  have hinX2 : ∀ w ∈ wsX20, w ∈ wsX2_keepFirstAnswer := by decide +kernel
  rw [f_X2_keepFirstAnswer] at hf
  refine lv_iconst (v := 0) hx hb dX2_keepFirstAnswer_0 (by decide) ?_
  refine lv_istore_n (lv' := [(1, .int 0), (0, .ref (ad 8))]) hx hb dX2_keepFirstAnswer_1 rfl hl (by decide) rfl (fun ls hl => ?_)
  have l2 : ∀ (nn : Nat) (v1_2 : Int32) (fa_2 : Nat → Int32), f_X2_keepFirstAnswer_L2 fi nn v1_2 fa_2 = some r → ∀ (H : Heap) (locs : List Loc) (ls : Array Slot), va_P D vwCl (wT cI ad size rc g fs st ln su rr cr bc bl td fi fa_2) H → va_D A (wT cI ad size rc g fs st ln su rr cr bc bl td fi fa_2) → va_S A s.heap H locs → lv_has ls 2 [(0, .ref (ad 8)), (1, .int v1_2)] → W p l e rm_X2_keepFirstAnswer s m args below meth c H locs 0 0 Q (F0 m 2 ls []) := by
    intro nn
    induction nn with
    | zero => intro _ _ hf; exact nomatch (show (none : Option _) = some r from hf)
    | succ n2 ih2 =>
      intro v1_2 fa_2 hf H locs ls hP hD hS hl
      rw [f_X2_keepFirstAnswer_L2.eq_2] at hf
      refine lv_iload_n hx hb dX2_keepFirstAnswer_2 rfl (lv_at hl 1 rfl) ?_
      refine lv_bipush (v := 16) hx hb dX2_keepFirstAnswer_3 (by decide) ?_
      refine lv_icmp_ge (tgt := 30) hx hb dX2_keepFirstAnswer_5 (by decide) (fun c_5 => ?_) (fun c_5 => ?_)
      · have hf := ite_t c_5 hf
        cases hf
        exact hR _ _ _ _ _ rfl hP hD hS dX2_keepFirstAnswer_30
      · have hf := ite_f c_5 hf
        refine lv_aload_n hx hb dX2_keepFirstAnswer_8 rfl (lv_at hl 0 rfl) ?_
        refine va_get (D := D) (ci := 2) (v := .ref (ad 12)) (C := RX2) (T := TX2) (N := 6) hx hb hts hinX2 hown hK.1 hP 8 rfl rfl 5 (by decide) (hts (.fieldLink RX2 21 "Gridpuzzle$Trying" "firstAnswer" "[I") (by decide +kernel)) (fun _ h9 => h9) rfl dX2_keepFirstAnswer_9 ?_
        refine lv_iload_n hx hb dX2_keepFirstAnswer_12 rfl (lv_at hl 1 rfl) ?_
        refine lv_aload_n hx hb dX2_keepFirstAnswer_13 rfl (lv_at hl 0 rfl) ?_
        refine va_get (D := D) (ci := 2) (v := .ref (ad 11)) (C := RX2) (T := TX2) (N := 6) hx hb hts hinX2 hown hK.1 hP 8 rfl rfl 4 (by decide) (hts (.fieldLink RX2 18 "Gridpuzzle$Trying" "filling" "[I") (by decide +kernel)) (fun _ h9 => h9) rfl dX2_keepFirstAnswer_14 ?_
        refine lv_iload_n hx hb dX2_keepFirstAnswer_17 rfl (lv_at hl 1 rfl) ?_
        refine clN_i (As := [.ref (ad 11), .int v1_2]) (rest := [.int v1_2, .ref (ad 12)]) (wT cI ad size rc g fs st ln su rr cr bc bl td fi fa_2) ⟨hx, hb, hml, hown, hts⟩ (K_X3_at l D cI cZ (ad 11) 16 (by decide) H.size fi v1_2 _ rfl) ⟨va_cnB (host := RX3) 2 hts gX2_keepFirstAnswer_X3_at_n41 rfl rfl rfl (hK.2 (RX2, 41, yX3_at) (by decide)) (hts (.initialized RX3) (by decide +kernel)) (by decide +kernel) ⟨Nat.le_of_ble_eq_true rfl, Nat.le_of_ble_eq_true rfl⟩, hts (.static yX3_at) (by decide +kernel), trivial⟩ hK hP hD hS hA hl.1 [11] (by decide) rfl rfl rfl rfl rfl (Nat.le_of_ble_eq_true rfl) dX2_keepFirstAnswer_18 ⟨Nat.le_of_ble_eq_true rfl, Nat.le_of_ble_eq_true rfl⟩ (fun H locs hP hD hS => ?_)
        refine clN_v (As := [.ref (ad 12), .int v1_2, .int (f_X3_at 16 fi v1_2)]) (rest := []) (wT cI ad size rc g fs st ln su rr cr bc bl td fi (f_X3_put 16 fa_2 v1_2 (f_X3_at 16 fi v1_2))) ⟨hx, hb, hml, hown, hts⟩ (K_X3_put l D cI cZ (ad 12) 16 (by decide) H.size fa_2 v1_2 (f_X3_at 16 fi v1_2) _ rfl) ⟨va_cnB (host := RX3) 3 hts gX2_keepFirstAnswer_X3_put_n60 rfl rfl rfl (hK.2 (RX2, 60, yX3_put) (by decide)) (hts (.initialized RX3) (by decide +kernel)) (by decide +kernel) ⟨Nat.le_of_ble_eq_true rfl, Nat.le_of_ble_eq_true rfl⟩, hts (.static yX3_put) (by decide +kernel), trivial⟩ hK hP hD hS hA hl.1 [12] (by decide) rfl rfl rfl rfl rfl (Nat.le_of_ble_eq_true rfl) dX2_keepFirstAnswer_21 ⟨Nat.le_of_ble_eq_true rfl, Nat.le_of_ble_eq_true rfl⟩ (fun H locs hP hD hS => ?_)
        refine lv_iinc (v := (v1_2 + 1)) (lv' := [(1, .int (v1_2 + 1)), (0, .ref (ad 8))]) hx hb dX2_keepFirstAnswer_24 hl (k := 1) rfl rfl (by decide) rfl (fun ls hl => ?_)
        refine lv_goto (tgt := 2) hx hb dX2_keepFirstAnswer_27 (by decide) ?_
        exact ih2 (v1_2 + 1) (f_X3_put 16 fa_2 v1_2 (f_X3_at 16 fi v1_2)) hf _ _ _ hP hD hS (lv_sub hl [1, 0] rfl)
  exact l2 N 0 fa hf _ _ _ hP hD hS (lv_sub hl [1, 0] rfl)
def rm_X2_backFrom : Room := { frames := 1, cells := 0, slots := 0, locals := 22 }
set_option maxRecDepth 100000 in
set_option maxHeartbeats 8000000 in
theorem K_X2_backFrom (l : Launch) (D : va_G) (cI cZ : ClassId) (ad : Nat → Nat) (sz : Nat) (N : Nat) (size rc : Int32) (g fs st ln su rr cr : Nat → Int32) (bc : Int32) (bl td fi fa : Nat → Int32) (p1 : Int32) (r : (Int32 × (Nat → Int32) × (Nat → Int32))) (hf : f_X2_backFrom N bl td fi p1 = some r) : Met l yX2_backFrom wsX2_backFrom rm_X2_backFrom (PC D cI cZ sz [.ref (ad 8), .int p1] (wT cI ad size rc g fs st ln su rr cr bc bl td fi fa)) (QI D cI cZ sz (wT cI ad size rc g fs st ln su rr cr bc bl td fi fa) r.1 (wT cI ad size rc g fs st ln su rr cr bc bl r.2.1 r.2.2 fa)) 0 0 (va_A (wT cI ad size rc g fs st ln su rr cr bc bl td fi fa) sz) := by
  refine mk_i (cc := cX2_backFrom) (maxL := 3) (lv0 := [(0, .ref (ad 8)), (1, .int p1)]) (by decide) rfl (Nat.le_of_ble_eq_true rfl) rfl ?_
  intro p e s m args below meth c ls A Q H hx hb hml hown hts hK hP hD hA hS hl hR
  have hinX2 : ∀ w ∈ wsX20, w ∈ wsX2_backFrom := by decide +kernel
  rw [f_X2_backFrom] at hf
  refine lv_iload_n hx hb dX2_backFrom_0 rfl (lv_at hl 1 rfl) ?_
  refine lv_istore_n (lv' := [(2, .int p1), (0, .ref (ad 8)), (1, .int p1)]) hx hb dX2_backFrom_1 rfl hl (by decide) rfl (fun ls hl => ?_)
  have l2 : ∀ (nn : Nat) (v2_2 : Int32) (td_2 : Nat → Int32) (fi_2 : Nat → Int32), f_X2_backFrom_L2 bl nn v2_2 td_2 fi_2 = some r → ∀ (H : Heap) (locs : List Loc) (ls : Array Slot), va_P D vwCl (wT cI ad size rc g fs st ln su rr cr bc bl td_2 fi_2 fa) H → va_D A (wT cI ad size rc g fs st ln su rr cr bc bl td_2 fi_2 fa) → va_S A s.heap H locs → lv_has ls 3 [(0, .ref (ad 8)), (2, .int v2_2)] → W p l e rm_X2_backFrom s m args below meth c H locs 0 0 Q (F0 m 2 ls []) := by
    intro nn
    induction nn with
    | zero => intro _ _ _ hf; exact nomatch (show (none : Option _) = some r from hf)
    | succ n2 ih2 =>
      intro v2_2 td_2 fi_2 hf H locs ls hP hD hS hl
      rw [f_X2_backFrom_L2.eq_2] at hf
      refine lv_iload_n hx hb dX2_backFrom_2 rfl (lv_at hl 1 rfl) ?_
      refine lv_if_lt (tgt := 64) hx hb dX2_backFrom_3 (by decide) (fun c_3 => ?_) (fun c_3 => ?_)
      · have hf := ite_t c_3 hf
        refine lv_iload_n hx hb dX2_backFrom_64 rfl (lv_at hl 1 rfl) ?_
        cases hf
        exact hR _ _ _ _ _ _ rfl rfl hP hD hS dX2_backFrom_65
      · have hf := ite_f c_3 hf
        refine lv_aload_n hx hb dX2_backFrom_6 rfl (lv_at hl 0 rfl) ?_
        refine va_get (D := D) (ci := 2) (v := .ref (ad 10)) (C := RX2) (T := TX2) (N := 6) hx hb hts hinX2 hown hK.1 hP 8 rfl rfl 3 (by decide) (hts (.fieldLink RX2 15 "Gridpuzzle$Trying" "tried" "[I") (by decide +kernel)) (fun _ h9 => h9) rfl dX2_backFrom_7 ?_
        refine lv_aload_n hx hb dX2_backFrom_10 rfl (lv_at hl 0 rfl) ?_
        refine va_get (D := D) (ci := 2) (v := .ref (ad 9)) (C := RX2) (T := TX2) (N := 6) hx hb hts hinX2 hown hK.1 hP 8 rfl rfl 2 (by decide) (hts (.fieldLink RX2 9 "Gridpuzzle$Trying" "blanks" "[I") (by decide +kernel)) (fun _ h9 => h9) rfl dX2_backFrom_11 ?_
        refine lv_iload_n hx hb dX2_backFrom_14 rfl (lv_at hl 1 rfl) ?_
        refine clN_i (As := [.ref (ad 9), .int v2_2]) (rest := [.ref (ad 10)]) (wT cI ad size rc g fs st ln su rr cr bc bl td_2 fi_2 fa) ⟨hx, hb, hml, hown, hts⟩ (K_X3_at l D cI cZ (ad 9) 16 (by decide) H.size bl v2_2 _ rfl) ⟨va_cnB (host := RX3) 2 hts gX2_backFrom_X3_at_n41 rfl rfl rfl (hK.2 (RX2, 41, yX3_at) (by decide)) (hts (.initialized RX3) (by decide +kernel)) (by decide +kernel) ⟨Nat.le_of_ble_eq_true rfl, Nat.le_of_ble_eq_true rfl⟩, hts (.static yX3_at) (by decide +kernel), trivial⟩ hK hP hD hS hA hl.1 [9] (by decide) rfl rfl rfl rfl rfl (Nat.le_of_ble_eq_true rfl) dX2_backFrom_15 ⟨Nat.le_of_ble_eq_true rfl, Nat.le_of_ble_eq_true rfl⟩ (fun H locs hP hD hS => ?_)
        refine clN_i (As := [.ref (ad 10), .int (f_X3_at 16 bl v2_2)]) (rest := []) (wT cI ad size rc g fs st ln su rr cr bc bl td_2 fi_2 fa) ⟨hx, hb, hml, hown, hts⟩ (K_X3_at l D cI cZ (ad 10) 16 (by decide) H.size td_2 (f_X3_at 16 bl v2_2) _ rfl) ⟨va_cnB (host := RX3) 2 hts gX2_backFrom_X3_at_n41 rfl rfl rfl (hK.2 (RX2, 41, yX3_at) (by decide)) (hts (.initialized RX3) (by decide +kernel)) (by decide +kernel) ⟨Nat.le_of_ble_eq_true rfl, Nat.le_of_ble_eq_true rfl⟩, hts (.static yX3_at) (by decide +kernel), trivial⟩ hK hP hD hS hA hl.1 [10] (by decide) rfl rfl rfl rfl rfl (Nat.le_of_ble_eq_true rfl) dX2_backFrom_18 ⟨Nat.le_of_ble_eq_true rfl, Nat.le_of_ble_eq_true rfl⟩ (fun H locs hP hD hS => ?_)
        refine lv_bipush (v := 9) hx hb dX2_backFrom_21 (by decide) ?_
        refine lv_icmp_lt (tgt := 64) hx hb dX2_backFrom_23 (by decide) (fun c_23 => ?_) (fun c_23 => ?_)
        · have hf := ite_t c_23 hf
          refine lv_iload_n hx hb dX2_backFrom_64 rfl (lv_at hl 1 rfl) ?_
          cases hf
          exact hR _ _ _ _ _ _ rfl rfl hP hD hS dX2_backFrom_65
        · have hf := ite_f c_23 hf
          refine lv_aload_n hx hb dX2_backFrom_26 rfl (lv_at hl 0 rfl) ?_
          refine va_get (D := D) (ci := 2) (v := .ref (ad 10)) (C := RX2) (T := TX2) (N := 6) hx hb hts hinX2 hown hK.1 hP 8 rfl rfl 3 (by decide) (hts (.fieldLink RX2 15 "Gridpuzzle$Trying" "tried" "[I") (by decide +kernel)) (fun _ h9 => h9) rfl dX2_backFrom_27 ?_
          refine lv_aload_n hx hb dX2_backFrom_30 rfl (lv_at hl 0 rfl) ?_
          refine va_get (D := D) (ci := 2) (v := .ref (ad 9)) (C := RX2) (T := TX2) (N := 6) hx hb hts hinX2 hown hK.1 hP 8 rfl rfl 2 (by decide) (hts (.fieldLink RX2 9 "Gridpuzzle$Trying" "blanks" "[I") (by decide +kernel)) (fun _ h9 => h9) rfl dX2_backFrom_31 ?_
          refine lv_iload_n hx hb dX2_backFrom_34 rfl (lv_at hl 1 rfl) ?_
          refine clN_i (As := [.ref (ad 9), .int v2_2]) (rest := [.ref (ad 10)]) (wT cI ad size rc g fs st ln su rr cr bc bl td_2 fi_2 fa) ⟨hx, hb, hml, hown, hts⟩ (K_X3_at l D cI cZ (ad 9) 16 (by decide) H.size bl v2_2 _ rfl) ⟨va_cnB (host := RX3) 2 hts gX2_backFrom_X3_at_n41 rfl rfl rfl (hK.2 (RX2, 41, yX3_at) (by decide)) (hts (.initialized RX3) (by decide +kernel)) (by decide +kernel) ⟨Nat.le_of_ble_eq_true rfl, Nat.le_of_ble_eq_true rfl⟩, hts (.static yX3_at) (by decide +kernel), trivial⟩ hK hP hD hS hA hl.1 [9] (by decide) rfl rfl rfl rfl rfl (Nat.le_of_ble_eq_true rfl) dX2_backFrom_35 ⟨Nat.le_of_ble_eq_true rfl, Nat.le_of_ble_eq_true rfl⟩ (fun H locs hP hD hS => ?_)
          refine lv_iconst (v := 0) hx hb dX2_backFrom_38 (by decide) ?_
          refine clN_v (As := [.ref (ad 10), .int (f_X3_at 16 bl v2_2), .int 0]) (rest := []) (wT cI ad size rc g fs st ln su rr cr bc bl (f_X3_put 16 td_2 (f_X3_at 16 bl v2_2) 0) fi_2 fa) ⟨hx, hb, hml, hown, hts⟩ (K_X3_put l D cI cZ (ad 10) 16 (by decide) H.size td_2 (f_X3_at 16 bl v2_2) 0 _ rfl) ⟨va_cnB (host := RX3) 3 hts gX2_backFrom_X3_put_n60 rfl rfl rfl (hK.2 (RX2, 60, yX3_put) (by decide)) (hts (.initialized RX3) (by decide +kernel)) (by decide +kernel) ⟨Nat.le_of_ble_eq_true rfl, Nat.le_of_ble_eq_true rfl⟩, hts (.static yX3_put) (by decide +kernel), trivial⟩ hK hP hD hS hA hl.1 [10] (by decide) rfl rfl rfl rfl rfl (Nat.le_of_ble_eq_true rfl) dX2_backFrom_39 ⟨Nat.le_of_ble_eq_true rfl, Nat.le_of_ble_eq_true rfl⟩ (fun H locs hP hD hS => ?_)
          refine lv_aload_n hx hb dX2_backFrom_42 rfl (lv_at hl 0 rfl) ?_
          refine va_get (D := D) (ci := 2) (v := .ref (ad 11)) (C := RX2) (T := TX2) (N := 6) hx hb hts hinX2 hown hK.1 hP 8 rfl rfl 4 (by decide) (hts (.fieldLink RX2 18 "Gridpuzzle$Trying" "filling" "[I") (by decide +kernel)) (fun _ h9 => h9) rfl dX2_backFrom_43 ?_
          refine lv_aload_n hx hb dX2_backFrom_46 rfl (lv_at hl 0 rfl) ?_
          refine va_get (D := D) (ci := 2) (v := .ref (ad 9)) (C := RX2) (T := TX2) (N := 6) hx hb hts hinX2 hown hK.1 hP 8 rfl rfl 2 (by decide) (hts (.fieldLink RX2 9 "Gridpuzzle$Trying" "blanks" "[I") (by decide +kernel)) (fun _ h9 => h9) rfl dX2_backFrom_47 ?_
          refine lv_iload_n hx hb dX2_backFrom_50 rfl (lv_at hl 1 rfl) ?_
          refine clN_i (As := [.ref (ad 9), .int v2_2]) (rest := [.ref (ad 11)]) (wT cI ad size rc g fs st ln su rr cr bc bl (f_X3_put 16 td_2 (f_X3_at 16 bl v2_2) 0) fi_2 fa) ⟨hx, hb, hml, hown, hts⟩ (K_X3_at l D cI cZ (ad 9) 16 (by decide) H.size bl v2_2 _ rfl) ⟨va_cnB (host := RX3) 2 hts gX2_backFrom_X3_at_n41 rfl rfl rfl (hK.2 (RX2, 41, yX3_at) (by decide)) (hts (.initialized RX3) (by decide +kernel)) (by decide +kernel) ⟨Nat.le_of_ble_eq_true rfl, Nat.le_of_ble_eq_true rfl⟩, hts (.static yX3_at) (by decide +kernel), trivial⟩ hK hP hD hS hA hl.1 [9] (by decide) rfl rfl rfl rfl rfl (Nat.le_of_ble_eq_true rfl) dX2_backFrom_51 ⟨Nat.le_of_ble_eq_true rfl, Nat.le_of_ble_eq_true rfl⟩ (fun H locs hP hD hS => ?_)
          refine lv_iconst (v := 0) hx hb dX2_backFrom_54 (by decide) ?_
          refine clN_v (As := [.ref (ad 11), .int (f_X3_at 16 bl v2_2), .int 0]) (rest := []) (wT cI ad size rc g fs st ln su rr cr bc bl (f_X3_put 16 td_2 (f_X3_at 16 bl v2_2) 0) (f_X3_put 16 fi_2 (f_X3_at 16 bl v2_2) 0) fa) ⟨hx, hb, hml, hown, hts⟩ (K_X3_put l D cI cZ (ad 11) 16 (by decide) H.size fi_2 (f_X3_at 16 bl v2_2) 0 _ rfl) ⟨va_cnB (host := RX3) 3 hts gX2_backFrom_X3_put_n60 rfl rfl rfl (hK.2 (RX2, 60, yX3_put) (by decide)) (hts (.initialized RX3) (by decide +kernel)) (by decide +kernel) ⟨Nat.le_of_ble_eq_true rfl, Nat.le_of_ble_eq_true rfl⟩, hts (.static yX3_put) (by decide +kernel), trivial⟩ hK hP hD hS hA hl.1 [11] (by decide) rfl rfl rfl rfl rfl (Nat.le_of_ble_eq_true rfl) dX2_backFrom_55 ⟨Nat.le_of_ble_eq_true rfl, Nat.le_of_ble_eq_true rfl⟩ (fun H locs hP hD hS => ?_)
          refine lv_iinc (v := (v2_2 + (-1))) (lv' := [(2, .int (v2_2 + (-1))), (0, .ref (ad 8))]) hx hb dX2_backFrom_58 hl (k := 1) rfl rfl (by decide) rfl (fun ls hl => ?_)
          refine lv_goto (tgt := 2) hx hb dX2_backFrom_61 (by decide) ?_
          exact ih2 (v2_2 + (-1)) (f_X3_put 16 td_2 (f_X3_at 16 bl v2_2) 0) (f_X3_put 16 fi_2 (f_X3_at 16 bl v2_2) 0) hf _ _ _ hP hD hS (lv_sub hl [1, 0] rfl)
  exact l2 N p1 td fi hf _ _ _ hP hD hS (lv_sub hl [1, 0] rfl)
def rm_X2_find : Room := { frames := 4, cells := 0, slots := 0, locals := 92 }
set_option maxRecDepth 100000 in
set_option maxHeartbeats 8000000 in
theorem K_X2_find (l : Launch) (D : va_G) (cI cZ : ClassId) (ad : Nat → Nat) (sz : Nat) (N : Nat) (size rc : Int32) (g fs st ln su rr cr : Nat → Int32) (bc : Int32) (bl td fi fa : Nat → Int32) (p1 : Int32) (r : (Int32 × Int32 × (Nat → Int32) × (Nat → Int32) × (Nat → Int32) × (Nat → Int32))) (hf : f_X2_find N size rc g fs st ln su rr cr bc bl td fi fa p1 = some r) : Met l yX2_find wsX2_find rm_X2_find (PC D cI cZ sz [.ref (ad 8), .int p1] (wT cI ad size rc g fs st ln su rr cr bc bl td fi fa)) (QI D cI cZ sz (wT cI ad size rc g fs st ln su rr cr bc bl td fi fa) r.1 (wT cI ad size rc g fs st ln su rr cr r.2.1 r.2.2.1 r.2.2.2.1 r.2.2.2.2.1 r.2.2.2.2.2)) 0 0 (va_A (wT cI ad size rc g fs st ln su rr cr bc bl td fi fa) sz) := by
  refine mk_i (cc := cX2_find) (maxL := 6) (lv0 := [(0, .ref (ad 8)), (1, .int p1)]) (by decide) rfl (Nat.le_of_ble_eq_true rfl) rfl ?_
  intro p e s m args below meth c ls A Q H hx hb hml hown hts hK hP hD hA hS hl hR
  have hinX2 : ∀ w ∈ wsX20, w ∈ wsX2_find := by decide +kernel
  rw [f_X2_find] at hf
  refine lv_aload_n hx hb dX2_find_0 rfl (lv_at hl 0 rfl) ?_
  obtain ⟨x1, hy1, hf⟩ := Option.bind_eq_some_iff.mp hf
  refine clV_v (As := []) (rest := []) (wT cI ad size rc g fs st ln su rr cr x1.1 x1.2.1 x1.2.2.1 x1.2.2.2 fa) ⟨hx, hb, hml, hown, hts⟩ (K_X2_start l D cI cZ ad H.size N size rc g fs st ln su rr cr bc bl td fi fa _ hy1) (cwV 0 hts gX2_find_X2_start rfl rfl rfl (by decide +kernel) ⟨Nat.le_of_ble_eq_true rfl, Nat.le_of_ble_eq_true rfl⟩) hK hP hD hS hA hl.1 [0, 1, 2, 3, 4, 5, 6, 7, 8, 9, 10, 11, 12] (by decide) rfl rfl rfl 2 8 rfl rfl rfl rfl rfl (Nat.le_of_ble_eq_true rfl) dX2_find_1 ⟨Nat.le_of_ble_eq_true rfl, Nat.le_of_ble_eq_true rfl⟩ (fun H locs hP hD hS => ?_)
  refine lv_aload_n hx hb dX2_find_4 rfl (lv_at hl 0 rfl) ?_
  refine va_get (D := D) (ci := 2) (v := .int x1.1) (C := RX2) (T := TX2) (N := 6) hx hb hts hinX2 hown hK.1 hP 8 rfl rfl 1 (by decide) (hts (.fieldLink RX2 31 "Gridpuzzle$Trying" "blankCount" "I") (by decide +kernel)) (fun _ h9 => h9) rfl dX2_find_5 ?_
  refine lv_if_ne (tgt := 31) hx hb dX2_find_8 (by decide) (fun c_8 => ?_) (fun c_8 => ?_)
  · have hf := ite_f c_8 hf
    refine lv_iconst (v := 0) hx hb dX2_find_31 (by decide) ?_
    refine lv_istore_n (lv' := [(2, .int 0), (0, .ref (ad 8)), (1, .int p1)]) hx hb dX2_find_32 rfl hl (by decide) rfl (fun ls hl => ?_)
    refine lv_iconst (v := 0) hx hb dX2_find_33 (by decide) ?_
    refine lv_istore_n (lv' := [(3, .int 0), (2, .int 0), (0, .ref (ad 8)), (1, .int p1)]) hx hb dX2_find_34 rfl hl (by decide) rfl (fun ls hl => ?_)
    refine lv_iconst (v := 0) hx hb dX2_find_35 (by decide) ?_
    refine lv_istore (lv' := [(4, .int 0), (3, .int 0), (2, .int 0), (0, .ref (ad 8)), (1, .int p1)]) hx hb dX2_find_36 hl (by decide) rfl (fun ls hl => ?_)
    have l38 : ∀ (nn : Nat) (v2_38 : Int32) (v3_38 : Int32) (v4_38 : Int32) (td_38 : Nat → Int32) (fi_38 : Nat → Int32) (fa_38 : Nat → Int32), f_X2_find_L38 N p1 rc fs st ln su rr cr x1.1 x1.2.1 nn v2_38 v3_38 v4_38 td_38 fi_38 fa_38 = some r → ∀ (H : Heap) (locs : List Loc) (ls : Array Slot), va_P D vwCl (wT cI ad size rc g fs st ln su rr cr x1.1 x1.2.1 td_38 fi_38 fa_38) H → va_D A (wT cI ad size rc g fs st ln su rr cr x1.1 x1.2.1 td_38 fi_38 fa_38) → va_S A s.heap H locs → lv_has ls 6 [(0, .ref (ad 8)), (1, .int p1), (2, .int v2_38), (3, .int v3_38), (4, .int v4_38)] → W p l e rm_X2_find s m args below meth c H locs 0 0 Q (F0 m 38 ls []) := by
      intro nn
      induction nn with
      | zero => intro _ _ _ _ _ _ hf; exact nomatch (show (none : Option _) = some r from hf)
      | succ n38 ih38 =>
        intro v2_38 v3_38 v4_38 td_38 fi_38 fa_38 hf H locs ls hP hD hS hl
        rw [f_X2_find_L38.eq_2] at hf
        refine lv_iload hx hb dX2_find_38 (lv_at hl 4 rfl) ?_
        refine lv_sipush (v := 20000) hx hb dX2_find_40 (by decide) ?_
        refine lv_icmp_ge (tgt := 137) hx hb dX2_find_43 (by decide) (fun c_43 => ?_) (fun c_43 => ?_)
        · have hf := ite_t c_43 hf
          refine lv_iconst (v := (-1)) hx hb dX2_find_137 (by decide) ?_
          cases hf
          exact hR _ _ _ _ _ _ rfl rfl hP hD hS dX2_find_138
        · have hf := ite_f c_43 hf
          refine lv_aload_n hx hb dX2_find_46 rfl (lv_at hl 0 rfl) ?_
          refine lv_aload_n hx hb dX2_find_47 rfl (lv_at hl 0 rfl) ?_
          refine va_get (D := D) (ci := 2) (v := .ref (ad 9)) (C := RX2) (T := TX2) (N := 6) hx hb hts hinX2 hown hK.1 hP 8 rfl rfl 2 (by decide) (hts (.fieldLink RX2 9 "Gridpuzzle$Trying" "blanks" "[I") (by decide +kernel)) (fun _ h9 => h9) rfl dX2_find_48 ?_
          refine lv_iload_n hx hb dX2_find_51 rfl (lv_at hl 3 rfl) ?_
          refine clN_i (As := [.ref (ad 9), .int v3_38]) (rest := [.ref (ad 8)]) (wT cI ad size rc g fs st ln su rr cr x1.1 x1.2.1 td_38 fi_38 fa_38) ⟨hx, hb, hml, hown, hts⟩ (K_X3_at l D cI cZ (ad 9) 16 (by decide) H.size x1.2.1 v3_38 _ rfl) ⟨va_cnB (host := RX3) 2 hts gX2_find_X3_at_n41 rfl rfl rfl (hK.2 (RX2, 41, yX3_at) (by decide)) (hts (.initialized RX3) (by decide +kernel)) (by decide +kernel) ⟨Nat.le_of_ble_eq_true rfl, Nat.le_of_ble_eq_true rfl⟩, hts (.static yX3_at) (by decide +kernel), trivial⟩ hK hP hD hS hA hl.1 [9] (by decide) rfl rfl rfl rfl rfl (Nat.le_of_ble_eq_true rfl) dX2_find_52 ⟨Nat.le_of_ble_eq_true rfl, Nat.le_of_ble_eq_true rfl⟩ (fun H locs hP hD hS => ?_)
          obtain ⟨x55, hy55, hf⟩ := Option.bind_eq_some_iff.mp hf
          refine clV_i (As := [.int (f_X3_at 16 x1.2.1 v3_38)]) (rest := []) (wT cI ad size rc g fs st ln su rr cr x1.1 x1.2.1 x55.2.1 x55.2.2 fa_38) ⟨hx, hb, hml, hown, hts⟩ (K_X2_tryNext l D cI cZ ad H.size N size rc g fs st ln su rr cr x1.1 x1.2.1 td_38 fi_38 fa_38 (f_X3_at 16 x1.2.1 v3_38) _ hy55) (cwV 1 hts gX2_find_X2_tryNext rfl rfl rfl (by decide +kernel) ⟨Nat.le_of_ble_eq_true rfl, Nat.le_of_ble_eq_true rfl⟩) hK hP hD hS hA hl.1 [0, 1, 2, 3, 4, 5, 6, 7, 8, 9, 10, 11, 12] (by decide) rfl rfl rfl 2 8 rfl rfl rfl rfl rfl (Nat.le_of_ble_eq_true rfl) dX2_find_55 ⟨Nat.le_of_ble_eq_true rfl, Nat.le_of_ble_eq_true rfl⟩ (fun H locs hP hD hS => ?_)
          refine lv_istore (lv' := [(5, .int x55.1), (0, .ref (ad 8)), (1, .int p1), (2, .int v2_38), (3, .int v3_38), (4, .int v4_38)]) hx hb dX2_find_58 hl (by decide) rfl (fun ls hl => ?_)
          refine lv_iload hx hb dX2_find_60 (lv_at hl 0 rfl) ?_
          obtain ⟨k119, hk119, hf⟩ := jn_some hf
          have w119 : ∀ (v2_119 : Int32) (v3_119 : Int32) (fa_119 : Nat → Int32), k119 v2_119 v3_119 fa_119 = some r → ∀ (H : Heap) (locs : List Loc) (ls : Array Slot), va_P D vwCl (wT cI ad size rc g fs st ln su rr cr x1.1 x1.2.1 x55.2.1 x55.2.2 fa_119) H → va_D A (wT cI ad size rc g fs st ln su rr cr x1.1 x1.2.1 x55.2.1 x55.2.2 fa_119) → va_S A s.heap H locs → lv_has ls 6 [(0, .ref (ad 8)), (1, .int p1), (2, .int v2_119), (3, .int v3_119), (4, .int v4_38)] → W p l e rm_X2_find s m args below meth c H locs 0 0 Q (F0 m 119 ls []) := by
            intro v2_119 v3_119 fa_119 hf H locs ls hP hD hS hl
            rw [hk119] at hf
            try dsimp only at hf
            refine lv_aload_n hx hb dX2_find_119 rfl (lv_at hl 0 rfl) ?_
            refine lv_iload_n hx hb dX2_find_120 rfl (lv_at hl 3 rfl) ?_
            obtain ⟨x121, hy121, hf⟩ := Option.bind_eq_some_iff.mp hf
            refine clV_i (As := [.int v3_119]) (rest := []) (wT cI ad size rc g fs st ln su rr cr x1.1 x1.2.1 x121.2.1 x121.2.2 fa_119) ⟨hx, hb, hml, hown, hts⟩ (K_X2_backFrom l D cI cZ ad H.size N size rc g fs st ln su rr cr x1.1 x1.2.1 x55.2.1 x55.2.2 fa_119 v3_119 _ hy121) (cwV 1 hts gX2_find_X2_backFrom rfl rfl rfl (by decide +kernel) ⟨Nat.le_of_ble_eq_true rfl, Nat.le_of_ble_eq_true rfl⟩) hK hP hD hS hA hl.1 [0, 1, 2, 3, 4, 5, 6, 7, 8, 9, 10, 11, 12] (by decide) rfl rfl rfl 2 8 rfl rfl rfl rfl rfl (Nat.le_of_ble_eq_true rfl) dX2_find_121 ⟨Nat.le_of_ble_eq_true rfl, Nat.le_of_ble_eq_true rfl⟩ (fun H locs hP hD hS => ?_)
            refine lv_istore_n (lv' := [(3, .int x121.1), (0, .ref (ad 8)), (1, .int p1), (2, .int v2_119), (4, .int v4_38)]) hx hb dX2_find_124 rfl hl (by decide) rfl (fun ls hl => ?_)
            refine lv_iload_n hx hb dX2_find_125 rfl (lv_at hl 0 rfl) ?_
            refine lv_if_ge (tgt := 131) hx hb dX2_find_126 (by decide) (fun c_126 => ?_) (fun c_126 => ?_)
            · have hf := ite_t c_126 hf
              refine lv_iinc (v := (v4_38 + 1)) (lv' := [(4, .int (v4_38 + 1)), (3, .int x121.1), (0, .ref (ad 8)), (1, .int p1), (2, .int v2_119)]) hx hb dX2_find_131 hl (k := 4) rfl rfl (by decide) rfl (fun ls hl => ?_)
              refine lv_goto (tgt := 38) hx hb dX2_find_134 (by decide) ?_
              exact ih38 v2_119 x121.1 (v4_38 + 1) x121.2.1 x121.2.2 fa_119 hf _ _ _ hP hD hS (lv_sub hl [2, 3, 4, 1, 0] rfl)
            · have hf := ite_f c_126 hf
              refine lv_iload_n hx hb dX2_find_129 rfl (lv_at hl 3 rfl) ?_
              cases hf
              exact hR _ _ _ _ _ _ rfl rfl hP hD hS dX2_find_130
          obtain ⟨k81, hk81, hf⟩ := jn_some hf
          have w81 : ∀ (_ : Unit), k81 () = some r → ∀ (H : Heap) (locs : List Loc) (ls : Array Slot), va_P D vwCl (wT cI ad size rc g fs st ln su rr cr x1.1 x1.2.1 x55.2.1 x55.2.2 fa_38) H → va_D A (wT cI ad size rc g fs st ln su rr cr x1.1 x1.2.1 x55.2.1 x55.2.2 fa_38) → va_S A s.heap H locs → lv_has ls 6 [(0, .ref (ad 8)), (1, .int p1), (2, .int v2_38), (3, .int v3_38), (4, .int v4_38), (5, .int x55.1)] → W p l e rm_X2_find s m args below meth c H locs 0 0 Q (F0 m 81 ls []) := by
            intro _ hf H locs ls hP hD hS hl
            rw [hk81] at hf
            try dsimp only at hf
            refine lv_iload hx hb dX2_find_81 (lv_at hl 5 rfl) ?_
            refine lv_if_eq (tgt := 119) hx hb dX2_find_83 (by decide) (fun c_83 => ?_) (fun c_83 => ?_)
            · have hf := ite_t c_83 hf
              exact w119 v2_38 v3_38 fa_38 hf _ _ _ hP hD hS (lv_sub hl [0, 1, 2, 3, 4] rfl)
            · have hf := ite_f c_83 hf
              refine lv_aload_n hx hb dX2_find_86 rfl (lv_at hl 0 rfl) ?_
              refine va_get (D := D) (ci := 2) (v := .ref (ad 0)) (C := RX2) (T := TX2) (N := 6) hx hb hts hinX2 hown hK.1 hP 8 rfl rfl 0 (by decide) (hts (.fieldLink RX2 24 "Gridpuzzle$Trying" "board" "LGridpuzzle$Board;") (by decide +kernel)) (fun _ h9 => h9) rfl dX2_find_87 ?_
              refine lv_aload_n hx hb dX2_find_90 rfl (lv_at hl 0 rfl) ?_
              refine va_get (D := D) (ci := 2) (v := .ref (ad 11)) (C := RX2) (T := TX2) (N := 6) hx hb hts hinX2 hown hK.1 hP 8 rfl rfl 4 (by decide) (hts (.fieldLink RX2 18 "Gridpuzzle$Trying" "filling" "[I") (by decide +kernel)) (fun _ h9 => h9) rfl dX2_find_91 ?_
              obtain ⟨x94, hy94, hf⟩ := Option.bind_eq_some_iff.mp hf
              refine clV_i (As := [.ref (ad 11)]) (rest := []) (wT cI ad size rc g fs st ln su rr cr x1.1 x1.2.1 x55.2.1 x55.2.2 fa_38) ⟨hx, hb, hml, hown, hts⟩ (K_X0_isAnswer l D cI cZ ad (ad 11) H.size N size rc g fs st ln su rr cr x55.2.2 _ hy94) (cwV 1 hts gX2_find_X0_isAnswer rfl rfl rfl (by decide +kernel) ⟨Nat.le_of_ble_eq_true rfl, Nat.le_of_ble_eq_true rfl⟩) hK hP hD hS hA hl.1 [0, 1, 2, 3, 4, 5, 6, 7, 11] (by decide) rfl rfl rfl 0 0 rfl rfl rfl rfl rfl (Nat.le_of_ble_eq_true rfl) dX2_find_94 ⟨Nat.le_of_ble_eq_true rfl, Nat.le_of_ble_eq_true rfl⟩ (fun H locs hP hD hS => ?_)
              refine lv_if_eq (tgt := 119) hx hb dX2_find_97 (by decide) (fun c_97 => ?_) (fun c_97 => ?_)
              · have hf := ite_t c_97 hf
                exact w119 v2_38 v3_38 fa_38 hf _ _ _ hP hD hS (lv_sub hl [0, 1, 2, 3, 4] rfl)
              · have hf := ite_f c_97 hf
                refine lv_iinc (v := (v2_38 + 1)) (lv' := [(2, .int (v2_38 + 1)), (0, .ref (ad 8)), (1, .int p1), (3, .int v3_38), (4, .int v4_38), (5, .int x55.1)]) hx hb dX2_find_100 hl (k := 2) rfl rfl (by decide) rfl (fun ls hl => ?_)
                refine lv_iload_n hx hb dX2_find_103 rfl (lv_at hl 0 rfl) ?_
                refine lv_iconst (v := 1) hx hb dX2_find_104 (by decide) ?_
                obtain ⟨k112, hk112, hf⟩ := jn_some hf
                have w112 : ∀ (fa_112 : Nat → Int32), k112 fa_112 = some r → ∀ (H : Heap) (locs : List Loc) (ls : Array Slot), va_P D vwCl (wT cI ad size rc g fs st ln su rr cr x1.1 x1.2.1 x55.2.1 x55.2.2 fa_112) H → va_D A (wT cI ad size rc g fs st ln su rr cr x1.1 x1.2.1 x55.2.1 x55.2.2 fa_112) → va_S A s.heap H locs → lv_has ls 6 [(0, .ref (ad 8)), (1, .int p1), (2, .int (v2_38 + 1)), (3, .int v3_38), (4, .int v4_38)] → W p l e rm_X2_find s m args below meth c H locs 0 0 Q (F0 m 112 ls []) := by
                  intro fa_112 hf H locs ls hP hD hS hl
                  rw [hk112] at hf
                  try dsimp only at hf
                  refine lv_iload_n hx hb dX2_find_112 rfl (lv_at hl 2 rfl) ?_
                  refine lv_iload_n hx hb dX2_find_113 rfl (lv_at hl 1 rfl) ?_
                  refine lv_icmp_lt (tgt := 119) hx hb dX2_find_114 (by decide) (fun c_114 => ?_) (fun c_114 => ?_)
                  · have hf := ite_t c_114 hf
                    exact w119 (v2_38 + 1) v3_38 fa_112 hf _ _ _ hP hD hS (lv_sub hl [0, 1, 2, 3, 4] rfl)
                  · have hf := ite_f c_114 hf
                    refine lv_iload_n hx hb dX2_find_117 rfl (lv_at hl 2 rfl) ?_
                    cases hf
                    exact hR _ _ _ _ _ _ rfl rfl hP hD hS dX2_find_118
                refine lv_icmp_ne (tgt := 112) hx hb dX2_find_105 (by decide) (fun c_105 => ?_) (fun c_105 => ?_)
                · have hf := ite_f c_105 hf
                  exact w112 fa_38 hf _ _ _ hP hD hS (lv_sub hl [1, 2, 0, 3, 4] rfl)
                · have hf := ite_t c_105 hf
                  refine lv_aload_n hx hb dX2_find_108 rfl (lv_at hl 1 rfl) ?_
                  obtain ⟨x109, hy109, hf⟩ := Option.bind_eq_some_iff.mp hf
                  refine clV_v (As := []) (rest := []) (wT cI ad size rc g fs st ln su rr cr x1.1 x1.2.1 x55.2.1 x55.2.2 x109) ⟨hx, hb, hml, hown, hts⟩ (K_X2_keepFirstAnswer l D cI cZ ad H.size N size rc g fs st ln su rr cr x1.1 x1.2.1 x55.2.1 x55.2.2 fa_38 _ hy109) (cwV 0 hts gX2_find_X2_keepFirstAnswer rfl rfl rfl (by decide +kernel) ⟨Nat.le_of_ble_eq_true rfl, Nat.le_of_ble_eq_true rfl⟩) hK hP hD hS hA hl.1 [0, 1, 2, 3, 4, 5, 6, 7, 8, 9, 10, 11, 12] (by decide) rfl rfl rfl 2 8 rfl rfl rfl rfl rfl (Nat.le_of_ble_eq_true rfl) dX2_find_109 ⟨Nat.le_of_ble_eq_true rfl, Nat.le_of_ble_eq_true rfl⟩ (fun H locs hP hD hS => ?_)
                  exact w112 x109 hf _ _ _ hP hD hS (lv_sub hl [1, 2, 0, 3, 4] rfl)
          refine lv_if_eq (tgt := 81) hx hb dX2_find_62 (by decide) (fun c_62 => ?_) (fun c_62 => ?_)
          · have hf := ite_t c_62 hf
            exact w81 () hf _ _ _ hP hD hS (lv_sub hl [1, 2, 3, 4, 5, 0] rfl)
          · have hf := ite_f c_62 hf
            refine lv_iload_n hx hb dX2_find_65 rfl (lv_at hl 4 rfl) ?_
            refine lv_iconst (v := 1) hx hb dX2_find_66 (by decide) ?_
            refine lv_iadd hx hb dX2_find_67 ?_
            refine lv_aload_n hx hb dX2_find_68 rfl (lv_at hl 1 rfl) ?_
            refine va_get (D := D) (ci := 2) (v := .int x1.1) (C := RX2) (T := TX2) (N := 6) hx hb hts hinX2 hown hK.1 hP 8 rfl rfl 1 (by decide) (hts (.fieldLink RX2 31 "Gridpuzzle$Trying" "blankCount" "I") (by decide +kernel)) (fun _ h9 => h9) rfl dX2_find_69 ?_
            refine lv_icmp_ge (tgt := 81) hx hb dX2_find_72 (by decide) (fun c_72 => ?_) (fun c_72 => ?_)
            · have hf := ite_t c_72 hf
              exact w81 () hf _ _ _ hP hD hS (lv_sub hl [1, 2, 3, 4, 5, 0] rfl)
            · have hf := ite_f c_72 hf
              refine lv_iinc (v := (v3_38 + 1)) (lv' := [(3, .int (v3_38 + 1)), (5, .int x55.1), (0, .ref (ad 8)), (1, .int p1), (2, .int v2_38), (4, .int v4_38)]) hx hb dX2_find_75 hl (k := 4) rfl rfl (by decide) rfl (fun ls hl => ?_)
              refine lv_goto (tgt := 119) hx hb dX2_find_78 (by decide) ?_
              exact w119 v2_38 (v3_38 + 1) fa_38 hf _ _ _ hP hD hS (lv_sub hl [2, 3, 4, 0, 5] rfl)
    exact l38 N 0 0 0 x1.2.2.1 x1.2.2.2 fa hf _ _ _ hP hD hS (lv_sub hl [3, 4, 2, 1, 0] rfl)
  · have hf := ite_t c_8 hf
    refine lv_aload_n hx hb dX2_find_11 rfl (lv_at hl 0 rfl) ?_
    refine va_get (D := D) (ci := 2) (v := .ref (ad 0)) (C := RX2) (T := TX2) (N := 6) hx hb hts hinX2 hown hK.1 hP 8 rfl rfl 0 (by decide) (hts (.fieldLink RX2 24 "Gridpuzzle$Trying" "board" "LGridpuzzle$Board;") (by decide +kernel)) (fun _ h9 => h9) rfl dX2_find_12 ?_
    refine lv_aload_n hx hb dX2_find_15 rfl (lv_at hl 0 rfl) ?_
    refine va_get (D := D) (ci := 2) (v := .ref (ad 11)) (C := RX2) (T := TX2) (N := 6) hx hb hts hinX2 hown hK.1 hP 8 rfl rfl 4 (by decide) (hts (.fieldLink RX2 18 "Gridpuzzle$Trying" "filling" "[I") (by decide +kernel)) (fun _ h9 => h9) rfl dX2_find_16 ?_
    obtain ⟨x19, hy19, hf⟩ := Option.bind_eq_some_iff.mp hf
    refine clV_i (As := [.ref (ad 11)]) (rest := []) (wT cI ad size rc g fs st ln su rr cr x1.1 x1.2.1 x1.2.2.1 x1.2.2.2 fa) ⟨hx, hb, hml, hown, hts⟩ (K_X0_isAnswer l D cI cZ ad (ad 11) H.size N size rc g fs st ln su rr cr x1.2.2.2 _ hy19) (cwV 1 hts gX2_find_X0_isAnswer rfl rfl rfl (by decide +kernel) ⟨Nat.le_of_ble_eq_true rfl, Nat.le_of_ble_eq_true rfl⟩) hK hP hD hS hA hl.1 [0, 1, 2, 3, 4, 5, 6, 7, 11] (by decide) rfl rfl rfl 0 0 rfl rfl rfl rfl rfl (Nat.le_of_ble_eq_true rfl) dX2_find_19 ⟨Nat.le_of_ble_eq_true rfl, Nat.le_of_ble_eq_true rfl⟩ (fun H locs hP hD hS => ?_)
    refine lv_if_eq (tgt := 29) hx hb dX2_find_22 (by decide) (fun c_22 => ?_) (fun c_22 => ?_)
    · have hf := ite_t c_22 hf
      refine lv_iconst (v := 0) hx hb dX2_find_29 (by decide) ?_
      cases hf
      exact hR _ _ _ _ _ _ rfl rfl hP hD hS dX2_find_30
    · have hf := ite_f c_22 hf
      refine lv_iconst (v := 1) hx hb dX2_find_25 (by decide) ?_
      refine lv_goto (tgt := 30) hx hb dX2_find_26 (by decide) ?_
      cases hf
      exact hR _ _ _ _ _ _ rfl rfl hP hD hS dX2_find_30
def rm_X2_fillBy : Room := { frames := 1, cells := 0, slots := 0, locals := 22 }
set_option maxRecDepth 100000 in
set_option maxHeartbeats 8000000 in
theorem K_X2_fillBy (l : Launch) (D : va_G) (cI cZ : ClassId) (ad : Nat → Nat) (sz : Nat) (N : Nat) (size rc : Int32) (g fs st ln su rr cr : Nat → Int32) (bc : Int32) (bl td fi fa : Nat → Int32) (p1 : Int32) (r : ((Nat → Int32))) (hf : f_X2_fillBy N bc bl fi p1 = some r) : Met l yX2_fillBy wsX2_fillBy rm_X2_fillBy (PC D cI cZ sz [.ref (ad 8), .int p1] (wT cI ad size rc g fs st ln su rr cr bc bl td fi fa)) (QV D cI cZ sz (wT cI ad size rc g fs st ln su rr cr bc bl td fi fa) (wT cI ad size rc g fs st ln su rr cr bc bl td r fa)) 0 0 (va_A (wT cI ad size rc g fs st ln su rr cr bc bl td fi fa) sz) := by
  refine mk_v (cc := cX2_fillBy) (maxL := 4) (lv0 := [(0, .ref (ad 8)), (1, .int p1)]) (by decide) rfl (Nat.le_of_ble_eq_true rfl) rfl ?_
  intro p e s m args below meth c ls A Q H hx hb hml hown hts hK hP hD hA hS hl hR
  have hinX2 : ∀ w ∈ wsX20, w ∈ wsX2_fillBy := by decide +kernel
  rw [f_X2_fillBy] at hf
  refine lv_iload_n hx hb dX2_fillBy_0 rfl (lv_at hl 1 rfl) ?_
  refine lv_istore_n (lv' := [(2, .int p1), (0, .ref (ad 8)), (1, .int p1)]) hx hb dX2_fillBy_1 rfl hl (by decide) rfl (fun ls hl => ?_)
  refine lv_iconst (v := 0) hx hb dX2_fillBy_2 (by decide) ?_
  refine lv_istore_n (lv' := [(3, .int 0), (2, .int p1), (0, .ref (ad 8)), (1, .int p1)]) hx hb dX2_fillBy_3 rfl hl (by decide) rfl (fun ls hl => ?_)
  have l4 : ∀ (nn : Nat) (v2_4 : Int32) (v3_4 : Int32) (fi_4 : Nat → Int32), f_X2_fillBy_L4 bc bl nn v2_4 v3_4 fi_4 = some r → ∀ (H : Heap) (locs : List Loc) (ls : Array Slot), va_P D vwCl (wT cI ad size rc g fs st ln su rr cr bc bl td fi_4 fa) H → va_D A (wT cI ad size rc g fs st ln su rr cr bc bl td fi_4 fa) → va_S A s.heap H locs → lv_has ls 4 [(0, .ref (ad 8)), (2, .int v2_4), (3, .int v3_4)] → W p l e rm_X2_fillBy s m args below meth c H locs 0 0 Q (F0 m 4 ls []) := by
    intro nn
    induction nn with
    | zero => intro _ _ _ hf; exact nomatch (show (none : Option _) = some r from hf)
    | succ n4 ih4 =>
      intro v2_4 v3_4 fi_4 hf H locs ls hP hD hS hl
      rw [f_X2_fillBy_L4.eq_2] at hf
      refine lv_iload_n hx hb dX2_fillBy_4 rfl (lv_at hl 2 rfl) ?_
      refine lv_aload_n hx hb dX2_fillBy_5 rfl (lv_at hl 0 rfl) ?_
      refine va_get (D := D) (ci := 2) (v := .int bc) (C := RX2) (T := TX2) (N := 6) hx hb hts hinX2 hown hK.1 hP 8 rfl rfl 1 (by decide) (hts (.fieldLink RX2 31 "Gridpuzzle$Trying" "blankCount" "I") (by decide +kernel)) (fun _ h9 => h9) rfl dX2_fillBy_6 ?_
      refine lv_icmp_ge (tgt := 44) hx hb dX2_fillBy_9 (by decide) (fun c_9 => ?_) (fun c_9 => ?_)
      · have hf := ite_t c_9 hf
        cases hf
        exact hR _ _ _ _ _ rfl hP hD hS dX2_fillBy_44
      · have hf := ite_f c_9 hf
        refine lv_aload_n hx hb dX2_fillBy_12 rfl (lv_at hl 0 rfl) ?_
        refine va_get (D := D) (ci := 2) (v := .ref (ad 11)) (C := RX2) (T := TX2) (N := 6) hx hb hts hinX2 hown hK.1 hP 8 rfl rfl 4 (by decide) (hts (.fieldLink RX2 18 "Gridpuzzle$Trying" "filling" "[I") (by decide +kernel)) (fun _ h9 => h9) rfl dX2_fillBy_13 ?_
        refine lv_aload_n hx hb dX2_fillBy_16 rfl (lv_at hl 0 rfl) ?_
        refine va_get (D := D) (ci := 2) (v := .ref (ad 9)) (C := RX2) (T := TX2) (N := 6) hx hb hts hinX2 hown hK.1 hP 8 rfl rfl 2 (by decide) (hts (.fieldLink RX2 9 "Gridpuzzle$Trying" "blanks" "[I") (by decide +kernel)) (fun _ h9 => h9) rfl dX2_fillBy_17 ?_
        refine lv_iload_n hx hb dX2_fillBy_20 rfl (lv_at hl 2 rfl) ?_
        refine clN_i (As := [.ref (ad 9), .int v3_4]) (rest := [.ref (ad 11)]) (wT cI ad size rc g fs st ln su rr cr bc bl td fi_4 fa) ⟨hx, hb, hml, hown, hts⟩ (K_X3_at l D cI cZ (ad 9) 16 (by decide) H.size bl v3_4 _ rfl) ⟨va_cnB (host := RX3) 2 hts gX2_fillBy_X3_at_n41 rfl rfl rfl (hK.2 (RX2, 41, yX3_at) (by decide)) (hts (.initialized RX3) (by decide +kernel)) (by decide +kernel) ⟨Nat.le_of_ble_eq_true rfl, Nat.le_of_ble_eq_true rfl⟩, hts (.static yX3_at) (by decide +kernel), trivial⟩ hK hP hD hS hA hl.1 [9] (by decide) rfl rfl rfl rfl rfl (Nat.le_of_ble_eq_true rfl) dX2_fillBy_21 ⟨Nat.le_of_ble_eq_true rfl, Nat.le_of_ble_eq_true rfl⟩ (fun H locs hP hD hS => ?_)
        refine lv_iload_n hx hb dX2_fillBy_24 rfl (lv_at hl 1 rfl) ?_
        refine lv_bipush (v := 9) hx hb dX2_fillBy_25 (by decide) ?_
        refine lv_irem hx hb dX2_fillBy_27 (by decide) ?_
        refine lv_iconst (v := 1) hx hb dX2_fillBy_28 (by decide) ?_
        refine lv_iadd hx hb dX2_fillBy_29 ?_
        refine clN_v (As := [.ref (ad 11), .int (f_X3_at 16 bl v3_4), .int ((v2_4 - v2_4 / 9 * 9) + 1)]) (rest := []) (wT cI ad size rc g fs st ln su rr cr bc bl td (f_X3_put 16 fi_4 (f_X3_at 16 bl v3_4) ((v2_4 - v2_4 / 9 * 9) + 1)) fa) ⟨hx, hb, hml, hown, hts⟩ (K_X3_put l D cI cZ (ad 11) 16 (by decide) H.size fi_4 (f_X3_at 16 bl v3_4) ((v2_4 - v2_4 / 9 * 9) + 1) _ rfl) ⟨va_cnB (host := RX3) 3 hts gX2_fillBy_X3_put_n60 rfl rfl rfl (hK.2 (RX2, 60, yX3_put) (by decide)) (hts (.initialized RX3) (by decide +kernel)) (by decide +kernel) ⟨Nat.le_of_ble_eq_true rfl, Nat.le_of_ble_eq_true rfl⟩, hts (.static yX3_put) (by decide +kernel), trivial⟩ hK hP hD hS hA hl.1 [11] (by decide) rfl rfl rfl rfl rfl (Nat.le_of_ble_eq_true rfl) dX2_fillBy_30 ⟨Nat.le_of_ble_eq_true rfl, Nat.le_of_ble_eq_true rfl⟩ (fun H locs hP hD hS => ?_)
        refine lv_iload_n hx hb dX2_fillBy_33 rfl (lv_at hl 1 rfl) ?_
        refine lv_bipush (v := 9) hx hb dX2_fillBy_34 (by decide) ?_
        refine lv_idiv hx hb dX2_fillBy_36 (by decide) ?_
        refine lv_istore_n (lv' := [(2, .int (v2_4 / 9)), (0, .ref (ad 8)), (3, .int v3_4)]) hx hb dX2_fillBy_37 rfl hl (by decide) rfl (fun ls hl => ?_)
        refine lv_iinc (v := (v3_4 + 1)) (lv' := [(3, .int (v3_4 + 1)), (2, .int (v2_4 / 9)), (0, .ref (ad 8))]) hx hb dX2_fillBy_38 hl (k := 2) rfl rfl (by decide) rfl (fun ls hl => ?_)
        refine lv_goto (tgt := 4) hx hb dX2_fillBy_41 (by decide) ?_
        exact ih4 (v2_4 / 9) (v3_4 + 1) (f_X3_put 16 fi_4 (f_X3_at 16 bl v3_4) ((v2_4 - v2_4 / 9 * 9) + 1)) hf _ _ _ hP hD hS (lv_sub hl [2, 1, 0] rfl)
  exact l4 N p1 0 fi hf _ _ _ hP hD hS (lv_sub hl [2, 1, 0] rfl)
def rm_X2_countByAll : Room := { frames := 4, cells := 0, slots := 0, locals := 92 }
set_option maxRecDepth 100000 in
set_option maxHeartbeats 8000000 in
theorem K_X2_countByAll (l : Launch) (D : va_G) (cI cZ : ClassId) (ad : Nat → Nat) (sz : Nat) (N : Nat) (size rc : Int32) (g fs st ln su rr cr : Nat → Int32) (bc : Int32) (bl td fi fa : Nat → Int32) (r : (Int32 × Int32 × (Nat → Int32) × (Nat → Int32) × (Nat → Int32))) (hf : f_X2_countByAll N size rc g fs st ln su bc bl td fi = some r) : Met l yX2_countByAll wsX2_countByAll rm_X2_countByAll (PC D cI cZ sz [.ref (ad 8)] (wT cI ad size rc g fs st ln su rr cr bc bl td fi fa)) (QI D cI cZ sz (wT cI ad size rc g fs st ln su rr cr bc bl td fi fa) r.1 (wT cI ad size rc g fs st ln su rr cr r.2.1 r.2.2.1 r.2.2.2.1 r.2.2.2.2 fa)) 0 0 (va_A (wT cI ad size rc g fs st ln su rr cr bc bl td fi fa) sz) := by
  refine mk_i (cc := cX2_countByAll) (maxL := 4) (lv0 := [(0, .ref (ad 8))]) (by decide) rfl (Nat.le_of_ble_eq_true rfl) rfl ?_
  intro p e s m args below meth c ls A Q H hx hb hml hown hts hK hP hD hA hS hl hR
  have hinX2 : ∀ w ∈ wsX20, w ∈ wsX2_countByAll := by decide +kernel
  rw [f_X2_countByAll] at hf
  refine lv_aload_n hx hb dX2_countByAll_0 rfl (lv_at hl 0 rfl) ?_
  obtain ⟨x1, hy1, hf⟩ := Option.bind_eq_some_iff.mp hf
  refine clV_v (As := []) (rest := []) (wT cI ad size rc g fs st ln su rr cr x1.1 x1.2.1 x1.2.2.1 x1.2.2.2 fa) ⟨hx, hb, hml, hown, hts⟩ (K_X2_start l D cI cZ ad H.size N size rc g fs st ln su rr cr bc bl td fi fa _ hy1) (cwV 0 hts gX2_countByAll_X2_start rfl rfl rfl (by decide +kernel) ⟨Nat.le_of_ble_eq_true rfl, Nat.le_of_ble_eq_true rfl⟩) hK hP hD hS hA hl.1 [0, 1, 2, 3, 4, 5, 6, 7, 8, 9, 10, 11, 12] (by decide) rfl rfl rfl 2 8 rfl rfl rfl rfl rfl (Nat.le_of_ble_eq_true rfl) dX2_countByAll_1 ⟨Nat.le_of_ble_eq_true rfl, Nat.le_of_ble_eq_true rfl⟩ (fun H locs hP hD hS => ?_)
  refine lv_iconst (v := 1) hx hb dX2_countByAll_4 (by decide) ?_
  refine lv_istore_n (lv' := [(1, .int 1), (0, .ref (ad 8))]) hx hb dX2_countByAll_5 rfl hl (by decide) rfl (fun ls hl => ?_)
  refine lv_iconst (v := 0) hx hb dX2_countByAll_6 (by decide) ?_
  refine lv_istore_n (lv' := [(2, .int 0), (1, .int 1), (0, .ref (ad 8))]) hx hb dX2_countByAll_7 rfl hl (by decide) rfl (fun ls hl => ?_)
  obtain ⟨k27, hk27, hf⟩ := jn_some hf
  have w27 : ∀ (v1_27 : Int32), k27 v1_27 = some r → ∀ (H : Heap) (locs : List Loc) (ls : Array Slot), va_P D vwCl (wT cI ad size rc g fs st ln su rr cr x1.1 x1.2.1 x1.2.2.1 x1.2.2.2 fa) H → va_D A (wT cI ad size rc g fs st ln su rr cr x1.1 x1.2.1 x1.2.2.1 x1.2.2.2 fa) → va_S A s.heap H locs → lv_has ls 4 [(0, .ref (ad 8)), (1, .int v1_27)] → W p l e rm_X2_countByAll s m args below meth c H locs 0 0 Q (F0 m 27 ls []) := by
    intro v1_27 hf H locs ls hP hD hS hl
    rw [hk27] at hf
    try dsimp only at hf
    refine lv_iconst (v := 0) hx hb dX2_countByAll_27 (by decide) ?_
    refine lv_istore_n (lv' := [(2, .int 0), (0, .ref (ad 8)), (1, .int v1_27)]) hx hb dX2_countByAll_28 rfl hl (by decide) rfl (fun ls hl => ?_)
    refine lv_iconst (v := 0) hx hb dX2_countByAll_29 (by decide) ?_
    refine lv_istore_n (lv' := [(3, .int 0), (2, .int 0), (0, .ref (ad 8)), (1, .int v1_27)]) hx hb dX2_countByAll_30 rfl hl (by decide) rfl (fun ls hl => ?_)
    have l31 : ∀ (nn : Nat) (v2_31 : Int32) (v3_31 : Int32) (fi_31 : Nat → Int32), f_X2_countByAll_L31 N v1_27 rc fs st ln su x1.1 x1.2.1 x1.2.2.1 nn v2_31 v3_31 fi_31 = some r → ∀ (H : Heap) (locs : List Loc) (ls : Array Slot), va_P D vwCl (wT cI ad size rc g fs st ln su rr cr x1.1 x1.2.1 x1.2.2.1 fi_31 fa) H → va_D A (wT cI ad size rc g fs st ln su rr cr x1.1 x1.2.1 x1.2.2.1 fi_31 fa) → va_S A s.heap H locs → lv_has ls 4 [(0, .ref (ad 8)), (1, .int v1_27), (2, .int v2_31), (3, .int v3_31)] → W p l e rm_X2_countByAll s m args below meth c H locs 0 0 Q (F0 m 31 ls []) := by
      intro nn
      induction nn with
      | zero => intro _ _ _ hf; exact nomatch (show (none : Option _) = some r from hf)
      | succ n31 ih31 =>
        intro v2_31 v3_31 fi_31 hf H locs ls hP hD hS hl
        rw [f_X2_countByAll_L31.eq_2] at hf
        refine lv_iload_n hx hb dX2_countByAll_31 rfl (lv_at hl 3 rfl) ?_
        refine lv_iload_n hx hb dX2_countByAll_32 rfl (lv_at hl 1 rfl) ?_
        refine lv_icmp_ge (tgt := 64) hx hb dX2_countByAll_33 (by decide) (fun c_33 => ?_) (fun c_33 => ?_)
        · have hf := ite_t c_33 hf
          refine lv_iload_n hx hb dX2_countByAll_64 rfl (lv_at hl 2 rfl) ?_
          cases hf
          exact hR _ _ _ _ _ _ rfl rfl hP hD hS dX2_countByAll_65
        · have hf := ite_f c_33 hf
          refine lv_aload_n hx hb dX2_countByAll_36 rfl (lv_at hl 0 rfl) ?_
          refine lv_iload_n hx hb dX2_countByAll_37 rfl (lv_at hl 3 rfl) ?_
          obtain ⟨x38, hy38, hf⟩ := Option.bind_eq_some_iff.mp hf
          refine clV_v (As := [.int v3_31]) (rest := []) (wT cI ad size rc g fs st ln su rr cr x1.1 x1.2.1 x1.2.2.1 x38 fa) ⟨hx, hb, hml, hown, hts⟩ (K_X2_fillBy l D cI cZ ad H.size N size rc g fs st ln su rr cr x1.1 x1.2.1 x1.2.2.1 fi_31 fa v3_31 _ hy38) (cwV 1 hts gX2_countByAll_X2_fillBy rfl rfl rfl (by decide +kernel) ⟨Nat.le_of_ble_eq_true rfl, Nat.le_of_ble_eq_true rfl⟩) hK hP hD hS hA hl.1 [0, 1, 2, 3, 4, 5, 6, 7, 8, 9, 10, 11, 12] (by decide) rfl rfl rfl 2 8 rfl rfl rfl rfl rfl (Nat.le_of_ble_eq_true rfl) dX2_countByAll_38 ⟨Nat.le_of_ble_eq_true rfl, Nat.le_of_ble_eq_true rfl⟩ (fun H locs hP hD hS => ?_)
          refine lv_aload_n hx hb dX2_countByAll_41 rfl (lv_at hl 0 rfl) ?_
          refine va_get (D := D) (ci := 2) (v := .ref (ad 0)) (C := RX2) (T := TX2) (N := 6) hx hb hts hinX2 hown hK.1 hP 8 rfl rfl 0 (by decide) (hts (.fieldLink RX2 24 "Gridpuzzle$Trying" "board" "LGridpuzzle$Board;") (by decide +kernel)) (fun _ h9 => h9) rfl dX2_countByAll_42 ?_
          refine lv_aload_n hx hb dX2_countByAll_45 rfl (lv_at hl 0 rfl) ?_
          refine va_get (D := D) (ci := 2) (v := .ref (ad 11)) (C := RX2) (T := TX2) (N := 6) hx hb hts hinX2 hown hK.1 hP 8 rfl rfl 4 (by decide) (hts (.fieldLink RX2 18 "Gridpuzzle$Trying" "filling" "[I") (by decide +kernel)) (fun _ h9 => h9) rfl dX2_countByAll_46 ?_
          obtain ⟨x49, hy49, hf⟩ := Option.bind_eq_some_iff.mp hf
          refine clV_i (As := [.ref (ad 11)]) (rest := []) (wT cI ad size rc g fs st ln su rr cr x1.1 x1.2.1 x1.2.2.1 x38 fa) ⟨hx, hb, hml, hown, hts⟩ (K_X0_isAnswer l D cI cZ ad (ad 11) H.size N size rc g fs st ln su rr cr x38 _ hy49) (cwV 1 hts gX2_countByAll_X0_isAnswer rfl rfl rfl (by decide +kernel) ⟨Nat.le_of_ble_eq_true rfl, Nat.le_of_ble_eq_true rfl⟩) hK hP hD hS hA hl.1 [0, 1, 2, 3, 4, 5, 6, 7, 11] (by decide) rfl rfl rfl 0 0 rfl rfl rfl rfl rfl (Nat.le_of_ble_eq_true rfl) dX2_countByAll_49 ⟨Nat.le_of_ble_eq_true rfl, Nat.le_of_ble_eq_true rfl⟩ (fun H locs hP hD hS => ?_)
          obtain ⟨k58, hk58, hf⟩ := jn_some hf
          have w58 : ∀ (v2_58 : Int32), k58 v2_58 = some r → ∀ (H : Heap) (locs : List Loc) (ls : Array Slot), va_P D vwCl (wT cI ad size rc g fs st ln su rr cr x1.1 x1.2.1 x1.2.2.1 x38 fa) H → va_D A (wT cI ad size rc g fs st ln su rr cr x1.1 x1.2.1 x1.2.2.1 x38 fa) → va_S A s.heap H locs → lv_has ls 4 [(0, .ref (ad 8)), (1, .int v1_27), (2, .int v2_58), (3, .int v3_31)] → W p l e rm_X2_countByAll s m args below meth c H locs 0 0 Q (F0 m 58 ls []) := by
            intro v2_58 hf H locs ls hP hD hS hl
            rw [hk58] at hf
            try dsimp only at hf
            refine lv_iinc (v := (v3_31 + 1)) (lv' := [(3, .int (v3_31 + 1)), (0, .ref (ad 8)), (1, .int v1_27), (2, .int v2_58)]) hx hb dX2_countByAll_58 hl (k := 3) rfl rfl (by decide) rfl (fun ls hl => ?_)
            refine lv_goto (tgt := 31) hx hb dX2_countByAll_61 (by decide) ?_
            exact ih31 v2_58 (v3_31 + 1) x38 hf _ _ _ hP hD hS (lv_sub hl [1, 2, 3, 0] rfl)
          refine lv_if_eq (tgt := 58) hx hb dX2_countByAll_52 (by decide) (fun c_52 => ?_) (fun c_52 => ?_)
          · have hf := ite_t c_52 hf
            exact w58 v2_31 hf _ _ _ hP hD hS (lv_sub hl [0, 1, 2, 3] rfl)
          · have hf := ite_f c_52 hf
            refine lv_iinc (v := (v2_31 + 1)) (lv' := [(2, .int (v2_31 + 1)), (0, .ref (ad 8)), (1, .int v1_27), (3, .int v3_31)]) hx hb dX2_countByAll_55 hl (k := 2) rfl rfl (by decide) rfl (fun ls hl => ?_)
            exact w58 (v2_31 + 1) hf _ _ _ hP hD hS (lv_sub hl [1, 2, 0, 3] rfl)
    exact l31 N 0 0 x1.2.2.2 hf _ _ _ hP hD hS (lv_sub hl [2, 3, 1, 0] rfl)
  have l8 : ∀ (nn : Nat) (v1_8 : Int32) (v2_8 : Int32), f_X2_countByAll_L8 x1.1 k27 nn v1_8 v2_8 = some r → ∀ (H : Heap) (locs : List Loc) (ls : Array Slot), va_P D vwCl (wT cI ad size rc g fs st ln su rr cr x1.1 x1.2.1 x1.2.2.1 x1.2.2.2 fa) H → va_D A (wT cI ad size rc g fs st ln su rr cr x1.1 x1.2.1 x1.2.2.1 x1.2.2.2 fa) → va_S A s.heap H locs → lv_has ls 4 [(0, .ref (ad 8)), (1, .int v1_8), (2, .int v2_8)] → W p l e rm_X2_countByAll s m args below meth c H locs 0 0 Q (F0 m 8 ls []) := by
    intro nn
    induction nn with
    | zero => intro _ _ hf; exact nomatch (show (none : Option _) = some r from hf)
    | succ n8 ih8 =>
      intro v1_8 v2_8 hf H locs ls hP hD hS hl
      rw [f_X2_countByAll_L8.eq_2] at hf
      refine lv_iload_n hx hb dX2_countByAll_8 rfl (lv_at hl 2 rfl) ?_
      refine lv_aload_n hx hb dX2_countByAll_9 rfl (lv_at hl 0 rfl) ?_
      refine va_get (D := D) (ci := 2) (v := .int x1.1) (C := RX2) (T := TX2) (N := 6) hx hb hts hinX2 hown hK.1 hP 8 rfl rfl 1 (by decide) (hts (.fieldLink RX2 31 "Gridpuzzle$Trying" "blankCount" "I") (by decide +kernel)) (fun _ h9 => h9) rfl dX2_countByAll_10 ?_
      refine lv_icmp_ge (tgt := 27) hx hb dX2_countByAll_13 (by decide) (fun c_13 => ?_) (fun c_13 => ?_)
      · have hf := ite_t c_13 hf
        exact w27 v1_8 hf _ _ _ hP hD hS (lv_sub hl [0, 1] rfl)
      · have hf := ite_f c_13 hf
        refine lv_iload_n hx hb dX2_countByAll_16 rfl (lv_at hl 1 rfl) ?_
        refine lv_bipush (v := 9) hx hb dX2_countByAll_17 (by decide) ?_
        refine lv_imul hx hb dX2_countByAll_19 ?_
        refine lv_istore_n (lv' := [(1, .int (v1_8 * 9)), (0, .ref (ad 8)), (2, .int v2_8)]) hx hb dX2_countByAll_20 rfl hl (by decide) rfl (fun ls hl => ?_)
        refine lv_iinc (v := (v2_8 + 1)) (lv' := [(2, .int (v2_8 + 1)), (1, .int (v1_8 * 9)), (0, .ref (ad 8))]) hx hb dX2_countByAll_21 hl (k := 2) rfl rfl (by decide) rfl (fun ls hl => ?_)
        refine lv_goto (tgt := 8) hx hb dX2_countByAll_24 (by decide) ?_
        exact ih8 (v1_8 * 9) (v2_8 + 1) hf _ _ _ hP hD hS (lv_sub hl [2, 1, 0] rfl)
  exact l8 N 1 0 hf _ _ _ hP hD hS (lv_sub hl [2, 1, 0] rfl)
def rm_X2_firstUnlike : Room := { frames := 1, cells := 0, slots := 0, locals := 21 }
set_option maxRecDepth 100000 in
set_option maxHeartbeats 8000000 in
theorem K_X2_firstUnlike (l : Launch) (D : va_G) (cI cZ : ClassId) (ad : Nat → Nat) (sz : Nat) (N : Nat) (size rc : Int32) (g fs st ln su rr cr : Nat → Int32) (bc : Int32) (bl td fi fa : Nat → Int32) (r : (Int32)) (hf : f_X2_firstUnlike N fi fa = some r) : Met l yX2_firstUnlike wsX2_firstUnlike rm_X2_firstUnlike (PC D cI cZ sz [.ref (ad 8)] (wT cI ad size rc g fs st ln su rr cr bc bl td fi fa)) (QI D cI cZ sz (wT cI ad size rc g fs st ln su rr cr bc bl td fi fa) r (wT cI ad size rc g fs st ln su rr cr bc bl td fi fa)) 0 0 (va_A (wT cI ad size rc g fs st ln su rr cr bc bl td fi fa) sz) := by
  refine mk_i (cc := cX2_firstUnlike) (maxL := 2) (lv0 := [(0, .ref (ad 8))]) (by decide) rfl (Nat.le_of_ble_eq_true rfl) rfl ?_
  intro p e s m args below meth c ls A Q H hx hb hml hown hts hK hP hD hA hS hl hR
  have hinX2 : ∀ w ∈ wsX20, w ∈ wsX2_firstUnlike := by decide +kernel
  rw [f_X2_firstUnlike] at hf
  refine lv_iconst (v := 0) hx hb dX2_firstUnlike_0 (by decide) ?_
  refine lv_istore_n (lv' := [(1, .int 0), (0, .ref (ad 8))]) hx hb dX2_firstUnlike_1 rfl hl (by decide) rfl (fun ls hl => ?_)
  have l2 : ∀ (nn : Nat) (v1_2 : Int32), f_X2_firstUnlike_L2 fi fa nn v1_2 = some r → ∀ (H : Heap) (locs : List Loc) (ls : Array Slot), va_P D vwCl (wT cI ad size rc g fs st ln su rr cr bc bl td fi fa) H → va_D A (wT cI ad size rc g fs st ln su rr cr bc bl td fi fa) → va_S A s.heap H locs → lv_has ls 2 [(0, .ref (ad 8)), (1, .int v1_2)] → W p l e rm_X2_firstUnlike s m args below meth c H locs 0 0 Q (F0 m 2 ls []) := by
    intro nn
    induction nn with
    | zero => intro _ hf; exact nomatch (show (none : Option _) = some r from hf)
    | succ n2 ih2 =>
      intro v1_2 hf H locs ls hP hD hS hl
      rw [f_X2_firstUnlike_L2.eq_2] at hf
      refine lv_iload_n hx hb dX2_firstUnlike_2 rfl (lv_at hl 1 rfl) ?_
      refine lv_bipush (v := 16) hx hb dX2_firstUnlike_3 (by decide) ?_
      refine lv_icmp_ge (tgt := 35) hx hb dX2_firstUnlike_5 (by decide) (fun c_5 => ?_) (fun c_5 => ?_)
      · have hf := ite_t c_5 hf
        refine lv_iconst (v := (-1)) hx hb dX2_firstUnlike_35 (by decide) ?_
        cases hf
        exact hR _ _ _ _ _ _ rfl rfl hP hD hS dX2_firstUnlike_36
      · have hf := ite_f c_5 hf
        refine lv_aload_n hx hb dX2_firstUnlike_8 rfl (lv_at hl 0 rfl) ?_
        refine va_get (D := D) (ci := 2) (v := .ref (ad 12)) (C := RX2) (T := TX2) (N := 6) hx hb hts hinX2 hown hK.1 hP 8 rfl rfl 5 (by decide) (hts (.fieldLink RX2 21 "Gridpuzzle$Trying" "firstAnswer" "[I") (by decide +kernel)) (fun _ h9 => h9) rfl dX2_firstUnlike_9 ?_
        refine lv_iload_n hx hb dX2_firstUnlike_12 rfl (lv_at hl 1 rfl) ?_
        refine clN_i (As := [.ref (ad 12), .int v1_2]) (rest := []) (wT cI ad size rc g fs st ln su rr cr bc bl td fi fa) ⟨hx, hb, hml, hown, hts⟩ (K_X3_at l D cI cZ (ad 12) 16 (by decide) H.size fa v1_2 _ rfl) ⟨va_cnB (host := RX3) 2 hts gX2_firstUnlike_X3_at_n41 rfl rfl rfl (hK.2 (RX2, 41, yX3_at) (by decide)) (hts (.initialized RX3) (by decide +kernel)) (by decide +kernel) ⟨Nat.le_of_ble_eq_true rfl, Nat.le_of_ble_eq_true rfl⟩, hts (.static yX3_at) (by decide +kernel), trivial⟩ hK hP hD hS hA hl.1 [12] (by decide) rfl rfl rfl rfl rfl (Nat.le_of_ble_eq_true rfl) dX2_firstUnlike_13 ⟨Nat.le_of_ble_eq_true rfl, Nat.le_of_ble_eq_true rfl⟩ (fun H locs hP hD hS => ?_)
        refine lv_aload_n hx hb dX2_firstUnlike_16 rfl (lv_at hl 0 rfl) ?_
        refine va_get (D := D) (ci := 2) (v := .ref (ad 11)) (C := RX2) (T := TX2) (N := 6) hx hb hts hinX2 hown hK.1 hP 8 rfl rfl 4 (by decide) (hts (.fieldLink RX2 18 "Gridpuzzle$Trying" "filling" "[I") (by decide +kernel)) (fun _ h9 => h9) rfl dX2_firstUnlike_17 ?_
        refine lv_iload_n hx hb dX2_firstUnlike_20 rfl (lv_at hl 1 rfl) ?_
        refine clN_i (As := [.ref (ad 11), .int v1_2]) (rest := [.int (f_X3_at 16 fa v1_2)]) (wT cI ad size rc g fs st ln su rr cr bc bl td fi fa) ⟨hx, hb, hml, hown, hts⟩ (K_X3_at l D cI cZ (ad 11) 16 (by decide) H.size fi v1_2 _ rfl) ⟨va_cnB (host := RX3) 2 hts gX2_firstUnlike_X3_at_n41 rfl rfl rfl (hK.2 (RX2, 41, yX3_at) (by decide)) (hts (.initialized RX3) (by decide +kernel)) (by decide +kernel) ⟨Nat.le_of_ble_eq_true rfl, Nat.le_of_ble_eq_true rfl⟩, hts (.static yX3_at) (by decide +kernel), trivial⟩ hK hP hD hS hA hl.1 [11] (by decide) rfl rfl rfl rfl rfl (Nat.le_of_ble_eq_true rfl) dX2_firstUnlike_21 ⟨Nat.le_of_ble_eq_true rfl, Nat.le_of_ble_eq_true rfl⟩ (fun H locs hP hD hS => ?_)
        refine lv_icmp_eq (tgt := 29) hx hb dX2_firstUnlike_24 (by decide) (fun c_24 => ?_) (fun c_24 => ?_)
        · have hf := ite_t c_24 hf
          refine lv_iinc (v := (v1_2 + 1)) (lv' := [(1, .int (v1_2 + 1)), (0, .ref (ad 8))]) hx hb dX2_firstUnlike_29 hl (k := 1) rfl rfl (by decide) rfl (fun ls hl => ?_)
          refine lv_goto (tgt := 2) hx hb dX2_firstUnlike_32 (by decide) ?_
          exact ih2 (v1_2 + 1) hf _ _ _ hP hD hS (lv_sub hl [1, 0] rfl)
        · have hf := ite_f c_24 hf
          refine lv_iload_n hx hb dX2_firstUnlike_27 rfl (lv_at hl 1 rfl) ?_
          cases hf
          exact hR _ _ _ _ _ _ rfl rfl hP hD hS dX2_firstUnlike_28
  exact l2 N 0 hf _ _ _ hP hD hS (lv_sub hl [1, 0] rfl)
def rm_X2_firstAnswerAt : Room := { frames := 1, cells := 0, slots := 0, locals := 21 }
set_option maxRecDepth 100000 in
set_option maxHeartbeats 8000000 in
theorem K_X2_firstAnswerAt (l : Launch) (D : va_G) (cI cZ : ClassId) (ad : Nat → Nat) (sz : Nat) (size rc : Int32) (g fs st ln su rr cr : Nat → Int32) (bc : Int32) (bl td fi fa : Nat → Int32) (p1 : Int32) (r : (Int32)) (hf : f_X2_firstAnswerAt fa p1 = r) : Met l yX2_firstAnswerAt wsX2_firstAnswerAt rm_X2_firstAnswerAt (PC D cI cZ sz [.ref (ad 8), .int p1] (wT cI ad size rc g fs st ln su rr cr bc bl td fi fa)) (QI D cI cZ sz (wT cI ad size rc g fs st ln su rr cr bc bl td fi fa) r (wT cI ad size rc g fs st ln su rr cr bc bl td fi fa)) 0 0 (va_A (wT cI ad size rc g fs st ln su rr cr bc bl td fi fa) sz) := by
  refine mk_i (cc := cX2_firstAnswerAt) (maxL := 2) (lv0 := [(0, .ref (ad 8)), (1, .int p1)]) (by decide) rfl (Nat.le_of_ble_eq_true rfl) rfl ?_
  intro p e s m args below meth c ls A Q H hx hb hml hown hts hK hP hD hA hS hl hR
  have hinX2 : ∀ w ∈ wsX20, w ∈ wsX2_firstAnswerAt := by decide +kernel
  rw [f_X2_firstAnswerAt] at hf
  refine lv_aload_n hx hb dX2_firstAnswerAt_0 rfl (lv_at hl 0 rfl) ?_
  refine va_get (D := D) (ci := 2) (v := .ref (ad 12)) (C := RX2) (T := TX2) (N := 6) hx hb hts hinX2 hown hK.1 hP 8 rfl rfl 5 (by decide) (hts (.fieldLink RX2 21 "Gridpuzzle$Trying" "firstAnswer" "[I") (by decide +kernel)) (fun _ h9 => h9) rfl dX2_firstAnswerAt_1 ?_
  refine lv_iload_n hx hb dX2_firstAnswerAt_4 rfl (lv_at hl 1 rfl) ?_
  refine clN_i (As := [.ref (ad 12), .int p1]) (rest := []) (wT cI ad size rc g fs st ln su rr cr bc bl td fi fa) ⟨hx, hb, hml, hown, hts⟩ (K_X3_at l D cI cZ (ad 12) 16 (by decide) H.size fa p1 _ rfl) ⟨va_cnB (host := RX3) 2 hts gX2_firstAnswerAt_X3_at_n41 rfl rfl rfl (hK.2 (RX2, 41, yX3_at) (by decide)) (hts (.initialized RX3) (by decide +kernel)) (by decide +kernel) ⟨Nat.le_of_ble_eq_true rfl, Nat.le_of_ble_eq_true rfl⟩, hts (.static yX3_at) (by decide +kernel), trivial⟩ hK hP hD hS hA hl.1 [12] (by decide) rfl rfl rfl rfl rfl (Nat.le_of_ble_eq_true rfl) dX2_firstAnswerAt_5 ⟨Nat.le_of_ble_eq_true rfl, Nat.le_of_ble_eq_true rfl⟩ (fun H locs hP hD hS => ?_)
  cases hf
  exact hR _ _ _ _ _ _ rfl rfl hP hD hS dX2_firstAnswerAt_8
