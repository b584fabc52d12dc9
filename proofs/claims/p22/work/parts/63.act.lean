def f_L_act (N : Nat) (size : Int32) (rc : Int32) (g : Nat → Int32) (fs : Nat → Int32) (st : Nat → Int32) (ln : Nat → Int32) (su : Nat → Int32) (rr : Nat → Int32) (cr : Nat → Int32) (bc : Int32) (bl : Nat → Int32) (td : Nat → Int32) (fi : Nat → Int32) (fa : Nat → Int32) (p1 : Int32) : Option (Int32 × Int32 × Int32 × (Nat → Int32) × (Nat → Int32) × (Nat → Int32) × (Nat → Int32) × (Nat → Int32) × (Nat → Int32) × (Nat → Int32) × Int32 × (Nat → Int32) × (Nat → Int32) × (Nat → Int32) × (Nat → Int32)) :=
  (f_L_low (p1 >>> (24 &&& 31)) 9).bind fun x6 => jn (fun (t0_17 : Int32) => jn (fun (t0_53 : Int32) => (f_L_low p1 16).bind fun x57 => (if x57 = 0 then (f_L_low (p1 >>> (8 &&& 31)) 3).bind fun x113 => (if x113 = 0 then jn (fun (t0_144 : Int32) => (f_L_begin N size rc g fs st ln su rr cr t0_144).bind fun x144 => some (x144.1, x144.2.1, x144.2.2.1, x144.2.2.2.1, x144.2.2.2.2.1, x144.2.2.2.2.2.1, x144.2.2.2.2.2.2.1, x144.2.2.2.2.2.2.2.1, x144.2.2.2.2.2.2.2.2.1, x144.2.2.2.2.2.2.2.2.2, bc, bl, td, fi, fa)) fun k144 => (if t0_17 = 0 then (f_L_low (p1 >>> (4 &&& 31)) 2).bind fun x140 => k144 (2 + x140) else (f_L_low (p1 >>> (4 &&& 31)) 7).bind fun x129 => k144 x129) else (f_L_bar N size rc g fs st ln su rr cr t0_53).bind fun x152 => some (x152.1, size, x152.2.1, x152.2.2.1, x152.2.2.2.1, x152.2.2.2.2.1, x152.2.2.2.2.2.1, x152.2.2.2.2.2.2.1, x152.2.2.2.2.2.2.2.1, x152.2.2.2.2.2.2.2.2, bc, bl, td, fi, fa)) else if x57 = 1 then (f_L_bar N size rc g fs st ln su rr cr t0_53).bind fun x158 => some (x158.1, size, x158.2.1, x158.2.2.1, x158.2.2.2.1, x158.2.2.2.2.1, x158.2.2.2.2.2.1, x158.2.2.2.2.2.2.1, x158.2.2.2.2.2.2.2.1, x158.2.2.2.2.2.2.2.2, bc, bl, td, fi, fa) else if x57 = 2 then (f_L_barBoth N size rc g fs st ln su rr cr t0_53).bind fun x164 => some (x164.1, size, x164.2.1, x164.2.2.1, x164.2.2.2.1, x164.2.2.2.2.1, x164.2.2.2.2.2.1, x164.2.2.2.2.2.2.1, x164.2.2.2.2.2.2.2.1, x164.2.2.2.2.2.2.2.2, bc, bl, td, fi, fa) else if x57 = 3 then (f_L_press N size rc g fs st ln su).bind fun x169 => some (x169.1, size, rc, x169.2.1, fs, st, ln, x169.2.2, rr, cr, bc, bl, td, fi, fa) else if x57 = 4 then (f_X3_open N size g).bind fun x174 => (if x174 ≤ 9 then (f_L_mend N size rc g fs st ln su rr cr bc bl td fi fa).bind fun x187 => some (x187.1, size, rc, x187.2.1, fs, st, ln, su, rr, cr, x187.2.2.1, x187.2.2.2.1, x187.2.2.2.2.1, x187.2.2.2.2.2.1, x187.2.2.2.2.2.2) else some (0, size, rc, g, fs, st, ln, su, rr, cr, bc, bl, td, fi, fa)) else if x57 = 5 then jn (fun (t0_210 : Int32) => (f_L_low (p1 >>> (4 &&& 31)) t0_210).bind fun x210 => jn (fun (t0_222 : Int32) => jn (fun (t0_252 : Int32) => (f_L_setSum rc su (x210 - t0_222) t0_252).bind fun x252 => some (x252.1, size, rc, g, fs, st, ln, x252.2, rr, cr, bc, bl, td, fi, fa)) fun k252 => (if t0_17 = 0 then (f_L_low (p1 >>> (8 &&& 31)) 17).bind fun x248 => k252 (3 + x248) else (f_L_low (p1 >>> (8 &&& 31)) 50).bind fun x233 => k252 (x233 - 2))) fun k222 => (if t0_17 = 0 then k222 0 else k222 1)) fun k210 => (if t0_17 = 0 then k210 ((f_X3_runs rc) + 1) else k210 9) else if x57 = 6 then jn (fun (t0_210 : Int32) => (f_L_low (p1 >>> (4 &&& 31)) t0_210).bind fun x210 => jn (fun (t0_222 : Int32) => jn (fun (t0_252 : Int32) => (f_L_setSum rc su (x210 - t0_222) t0_252).bind fun x252 => some (x252.1, size, rc, g, fs, st, ln, x252.2, rr, cr, bc, bl, td, fi, fa)) fun k252 => (if t0_17 = 0 then (f_L_low (p1 >>> (8 &&& 31)) 17).bind fun x248 => k252 (3 + x248) else (f_L_low (p1 >>> (8 &&& 31)) 50).bind fun x233 => k252 (x233 - 2))) fun k222 => (if t0_17 = 0 then k222 0 else k222 1)) fun k210 => (if t0_17 = 0 then k210 ((f_X3_runs rc) + 1) else k210 9) else if x57 = 7 then jn (fun (t0_210 : Int32) => (f_L_low (p1 >>> (4 &&& 31)) t0_210).bind fun x210 => jn (fun (t0_222 : Int32) => jn (fun (t0_252 : Int32) => (f_L_setSum rc su (x210 - t0_222) t0_252).bind fun x252 => some (x252.1, size, rc, g, fs, st, ln, x252.2, rr, cr, bc, bl, td, fi, fa)) fun k252 => (if t0_17 = 0 then (f_L_low (p1 >>> (8 &&& 31)) 17).bind fun x248 => k252 (3 + x248) else (f_L_low (p1 >>> (8 &&& 31)) 50).bind fun x233 => k252 (x233 - 2))) fun k222 => (if t0_17 = 0 then k222 0 else k222 1)) fun k210 => (if t0_17 = 0 then k210 ((f_X3_runs rc) + 1) else k210 9) else jn (fun (t0_285 : Int32) => (f_L_give size g t0_53 t0_285).bind fun x285 => some (x285.1, size, rc, x285.2, fs, st, ln, su, rr, cr, bc, bl, td, fi, fa)) fun k285 => (if t0_17 = 0 then (f_L_low (p1 >>> (8 &&& 31)) 10).bind fun x282 => k285 x282 else (f_L_low (p1 >>> (8 &&& 31)) 13).bind fun x268 => k285 (x268 - 2)))) fun k53 => (if t0_17 = 0 then (f_L_low (p1 >>> (4 &&& 31)) 3).bind fun x40 => (f_L_low (p1 >>> (6 &&& 31)) 3).bind fun x49 => k53 ((4 * x40) + x49) else (f_L_low (p1 >>> (4 &&& 31)) 19).bind fun x27 => k53 (x27 - 1))) fun k17 => (if x6 = 0 then k17 1 else k17 0)
def rm_L_act : Room := { frames := 11, cells := 10, slots := 60, locals := 267 }
set_option maxRecDepth 100000 in
set_option maxHeartbeats 16000000 in
theorem K_L_act (l : Launch) (hst : l.stackTraces = false) (D : va_G) (cI cZ : ClassId) (ad : Nat → Nat) (sz : Nat) (N : Nat) (size rc : Int32) (g fs st ln su rr cr : Nat → Int32) (bc : Int32) (bl td fi fa : Nat → Int32) (tk gr : Int32) (se sr : Nat → Int32) (p1 : Int32) (r : (Int32 × Int32 × Int32 × (Nat → Int32) × (Nat → Int32) × (Nat → Int32) × (Nat → Int32) × (Nat → Int32) × (Nat → Int32) × (Nat → Int32) × Int32 × (Nat → Int32) × (Nat → Int32) × (Nat → Int32) × (Nat → Int32))) (hf : f_L_act N size rc g fs st ln su rr cr bc bl td fi fa p1 = some r) : Met l yL_act wsL_act rm_L_act (PL D cI cZ sz [.ref (ad 16), .int p1] (wG cI ad size rc g fs st ln su rr cr bc bl td fi fa tk gr se sr)) (QI D cI cZ sz (wG cI ad size rc g fs st ln su rr cr bc bl td fi fa tk gr se sr) r.1 (wG cI ad r.2.1 r.2.2.1 r.2.2.2.1 r.2.2.2.2.1 r.2.2.2.2.2.1 r.2.2.2.2.2.2.1 r.2.2.2.2.2.2.2.1 r.2.2.2.2.2.2.2.2.1 r.2.2.2.2.2.2.2.2.2.1 r.2.2.2.2.2.2.2.2.2.2.1 r.2.2.2.2.2.2.2.2.2.2.2.1 r.2.2.2.2.2.2.2.2.2.2.2.2.1 r.2.2.2.2.2.2.2.2.2.2.2.2.2.1 r.2.2.2.2.2.2.2.2.2.2.2.2.2.2 tk gr se sr)) 10 60 (va_A (wG cI ad size rc g fs st ln su rr cr bc bl td fi fa tk gr se sr) sz) := by
  refine mkp_i (cc := cL_act) (maxL := 4) (lv0 := [(0, .ref (ad 16)), (1, .int p1)]) rfl (by decide) rfl (Nat.le_of_ble_eq_true rfl) rfl ?_
  intro p e s m args below meth c ls A Q H hx hb hml hown hts hK hXS hNC hP hD hA hS hl hR
  rw [f_L_act] at hf
  refine lv_iload_n hx hb dL_act_0 rfl (lv_at hl 1 rfl) ?_
  refine lv_bipush (v := 24) hx hb dL_act_1 (by decide) ?_
  refine lv_ishr hx hb dL_act_3 ?_
  refine lv_bipush (v := 9) hx hb dL_act_4 (by decide) ?_
  obtain ⟨x6, hy6, hf⟩ := Option.bind_eq_some_iff.mp hf
  refine clS_i (As := [.int (p1 >>> (24 &&& 31)), .int 9]) (rest := []) (wG cI ad size rc g fs st ln su rr cr bc bl td fi fa tk gr se sr) ⟨hx, hb, hml, hown, hts⟩ (K_L_low l D cI cZ H.size  (p1 >>> (24 &&& 31)) 9 _ hy6) (va_cwS 2 hts gL_act_L_low rfl rfl rfl (by decide +kernel) ⟨Nat.le_of_ble_eq_true rfl, Nat.le_of_ble_eq_true rfl⟩) hK hP hD hS hA hl.1 [] (by decide) rfl rfl rfl rfl rfl (Nat.le_of_ble_eq_true rfl) dL_act_6 ⟨Nat.le_of_ble_eq_true rfl, Nat.le_of_ble_eq_true rfl⟩ (fun H locs hP hD hS => ?_)
  obtain ⟨k17, hk17, hf⟩ := jn_some hf
  have w17 : ∀ (t0_17 : Int32), k17 t0_17 = some r → ∀ (H : Heap) (locs : List Loc) (ls : Array Slot), va_P D vwCl (wG cI ad size rc g fs st ln su rr cr bc bl td fi fa tk gr se sr) H → va_D A (wG cI ad size rc g fs st ln su rr cr bc bl td fi fa tk gr se sr) → va_S A s.heap H locs → lv_has ls 4 [(0, .ref (ad 16)), (1, .int p1)] → W p l e rm_L_act s m args below meth c H locs 0 0 Q (F0 m 17 ls [.int t0_17]) := by
    intro t0_17 hf H locs ls hP hD hS hl
    rw [hk17] at hf
    try dsimp only at hf
    refine lv_istore_n (lv' := [(2, .int t0_17), (0, .ref (ad 16)), (1, .int p1)]) hx hb dL_act_17 rfl hl (by decide) rfl (fun ls hl => ?_)
    refine lv_iload_n hx hb dL_act_18 rfl (lv_at hl 0 rfl) ?_
    obtain ⟨k53, hk53, hf⟩ := jn_some hf
    have w53 : ∀ (t0_53 : Int32), k53 t0_53 = some r → ∀ (H : Heap) (locs : List Loc) (ls : Array Slot), va_P D vwCl (wG cI ad size rc g fs st ln su rr cr bc bl td fi fa tk gr se sr) H → va_D A (wG cI ad size rc g fs st ln su rr cr bc bl td fi fa tk gr se sr) → va_S A s.heap H locs → lv_has ls 4 [(0, .ref (ad 16)), (1, .int p1), (2, .int t0_17)] → W p l e rm_L_act s m args below meth c H locs 0 0 Q (F0 m 53 ls [.int t0_53]) := by
      intro t0_53 hf H locs ls hP hD hS hl
      rw [hk53] at hf
      try dsimp only at hf
      refine lv_istore_n (lv' := [(3, .int t0_53), (0, .ref (ad 16)), (1, .int p1), (2, .int t0_17)]) hx hb dL_act_53 rfl hl (by decide) rfl (fun ls hl => ?_)
      refine lv_iload_n hx hb dL_act_54 rfl (lv_at hl 2 rfl) ?_
      refine lv_bipush (v := 16) hx hb dL_act_55 (by decide) ?_
      obtain ⟨x57, hy57, hf⟩ := Option.bind_eq_some_iff.mp hf
      refine clS_i (As := [.int p1, .int 16]) (rest := []) (wG cI ad size rc g fs st ln su rr cr bc bl td fi fa tk gr se sr) ⟨hx, hb, hml, hown, hts⟩ (K_L_low l D cI cZ H.size  p1 16 _ hy57) (va_cwS 2 hts gL_act_L_low rfl rfl rfl (by decide +kernel) ⟨Nat.le_of_ble_eq_true rfl, Nat.le_of_ble_eq_true rfl⟩) hK hP hD hS hA hl.1 [] (by decide) rfl rfl rfl rfl rfl (Nat.le_of_ble_eq_true rfl) dL_act_57 ⟨Nat.le_of_ble_eq_true rfl, Nat.le_of_ble_eq_true rfl⟩ (fun H locs hP hD hS => ?_)
      rcases Decidable.em (x57 = 0) with c_60_0 | c_60_0
      · have hf := ite_t c_60_0 hf
        refine lv_tableIn (off := 48) (tgt := 108) hx hb dL_act_60 (by rw [c_60_0]; decide) (by rw [c_60_0]; decide) (by rw [c_60_0]; rfl) (by decide) ?_
        refine lv_iload_n hx hb dL_act_108 rfl (lv_at hl 2 rfl) ?_
        refine lv_bipush (v := 8) hx hb dL_act_109 (by decide) ?_
        refine lv_ishr hx hb dL_act_111 ?_
        refine lv_iconst (v := 3) hx hb dL_act_112 (by decide) ?_
        obtain ⟨x113, hy113, hf⟩ := Option.bind_eq_some_iff.mp hf
        refine clS_i (As := [.int (p1 >>> (8 &&& 31)), .int 3]) (rest := []) (wG cI ad size rc g fs st ln su rr cr bc bl td fi fa tk gr se sr) ⟨hx, hb, hml, hown, hts⟩ (K_L_low l D cI cZ H.size  (p1 >>> (8 &&& 31)) 3 _ hy113) (va_cwS 2 hts gL_act_L_low rfl rfl rfl (by decide +kernel) ⟨Nat.le_of_ble_eq_true rfl, Nat.le_of_ble_eq_true rfl⟩) hK hP hD hS hA hl.1 [] (by decide) rfl rfl rfl rfl rfl (Nat.le_of_ble_eq_true rfl) dL_act_113 ⟨Nat.le_of_ble_eq_true rfl, Nat.le_of_ble_eq_true rfl⟩ (fun H locs hP hD hS => ?_)
        refine lv_if_ne (tgt := 150) hx hb dL_act_116 (by decide) (fun c_116 => ?_) (fun c_116 => ?_)
        · have hf := ite_f c_116 hf
          refine lv_aload_n hx hb dL_act_150 rfl (lv_at hl 1 rfl) ?_
          refine lv_iload_n hx hb dL_act_151 rfl (lv_at hl 0 rfl) ?_
          obtain ⟨x152, hy152, hf⟩ := Option.bind_eq_some_iff.mp hf
          refine clSW_i (As := [.ref (ad 16), .int t0_53]) (rest := []) (wG cI ad size x152.2.1 x152.2.2.1 x152.2.2.2.1 x152.2.2.2.2.1 x152.2.2.2.2.2.1 x152.2.2.2.2.2.2.1 x152.2.2.2.2.2.2.2.1 x152.2.2.2.2.2.2.2.2 bc bl td fi fa tk gr se sr) ⟨hx, hb, hml, hown, hts⟩ (K_L_bar l hst D cI cZ ad H.size N size rc g fs st ln su rr cr bc bl td fi fa tk gr se sr t0_53 _ hy152) (vx_cwSW 2 hts gL_act_L_bar rfl rfl rfl (by decide +kernel) ⟨Nat.le_of_ble_eq_true rfl, Nat.le_of_ble_eq_true rfl⟩) hK hXS hNC hP hD hS hA hl.1 [0, 1, 2, 3, 4, 5, 6, 7, 8, 9, 10, 11, 12, 13, 14, 15, 16] (by decide) rfl rfl rfl rfl rfl (Nat.le_of_ble_eq_true rfl) dL_act_152 ⟨Nat.le_of_ble_eq_true rfl, Nat.le_of_ble_eq_true rfl⟩ (fun H locs hP hD hS => ?_)
          cases hf
          exact hR _ _ _ _ _ _ _ _ rfl rfl hP hD hS (Nat.le_of_ble_eq_true rfl) (Nat.le_of_ble_eq_true rfl) dL_act_155
        · have hf := ite_t c_116 hf
          refine lv_aload_n hx hb dL_act_119 rfl (lv_at hl 1 rfl) ?_
          refine lv_iload_n hx hb dL_act_120 rfl (lv_at hl 3 rfl) ?_
          obtain ⟨k144, hk144, hf⟩ := jn_some hf
          have w144 : ∀ (t0_144 : Int32), k144 t0_144 = some r → ∀ (H : Heap) (locs : List Loc) (ls : Array Slot), va_P D vwCl (wG cI ad size rc g fs st ln su rr cr bc bl td fi fa tk gr se sr) H → va_D A (wG cI ad size rc g fs st ln su rr cr bc bl td fi fa tk gr se sr) → va_S A s.heap H locs → lv_has ls 4 [] → W p l e rm_L_act s m args below meth c H locs 0 0 Q (F0 m 144 ls [.int t0_144, .ref (ad 16)]) := by
            intro t0_144 hf H locs ls hP hD hS hl
            rw [hk144] at hf
            try dsimp only at hf
            obtain ⟨x144, hy144, hf⟩ := Option.bind_eq_some_iff.mp hf
            refine clSW_i (As := [.ref (ad 16), .int t0_144]) (rest := []) (wG cI ad x144.2.1 x144.2.2.1 x144.2.2.2.1 x144.2.2.2.2.1 x144.2.2.2.2.2.1 x144.2.2.2.2.2.2.1 x144.2.2.2.2.2.2.2.1 x144.2.2.2.2.2.2.2.2.1 x144.2.2.2.2.2.2.2.2.2 bc bl td fi fa tk gr se sr) ⟨hx, hb, hml, hown, hts⟩ (K_L_begin l hst D cI cZ ad H.size N size rc g fs st ln su rr cr bc bl td fi fa tk gr se sr t0_144 _ hy144) (vx_cwSW 2 hts gL_act_L_begin rfl rfl rfl (by decide +kernel) ⟨Nat.le_of_ble_eq_true rfl, Nat.le_of_ble_eq_true rfl⟩) hK hXS hNC hP hD hS hA hl.1 [0, 1, 2, 3, 4, 5, 6, 7, 8, 9, 10, 11, 12, 13, 14, 15, 16] (by decide) rfl rfl rfl rfl rfl (Nat.le_of_ble_eq_true rfl) dL_act_144 ⟨Nat.le_of_ble_eq_true rfl, Nat.le_of_ble_eq_true rfl⟩ (fun H locs hP hD hS => ?_)
            refine lv_goto (tgt := 155) hx hb dL_act_147 (by decide) ?_
            cases hf
            exact hR _ _ _ _ _ _ _ _ rfl rfl hP hD hS (Nat.le_of_ble_eq_true rfl) (Nat.le_of_ble_eq_true rfl) dL_act_155
          refine lv_if_eq (tgt := 135) hx hb dL_act_121 (by decide) (fun c_121 => ?_) (fun c_121 => ?_)
          · have hf := ite_t c_121 hf
            refine lv_iconst (v := 2) hx hb dL_act_135 (by decide) ?_
            refine lv_iload_n hx hb dL_act_136 rfl (lv_at hl 2 rfl) ?_
            refine lv_iconst (v := 4) hx hb dL_act_137 (by decide) ?_
            refine lv_ishr hx hb dL_act_138 ?_
            refine lv_iconst (v := 2) hx hb dL_act_139 (by decide) ?_
            obtain ⟨x140, hy140, hf⟩ := Option.bind_eq_some_iff.mp hf
            refine clS_i (As := [.int (p1 >>> (4 &&& 31)), .int 2]) (rest := [.int 2, .ref (ad 16)]) (wG cI ad size rc g fs st ln su rr cr bc bl td fi fa tk gr se sr) ⟨hx, hb, hml, hown, hts⟩ (K_L_low l D cI cZ H.size  (p1 >>> (4 &&& 31)) 2 _ hy140) (va_cwS 2 hts gL_act_L_low rfl rfl rfl (by decide +kernel) ⟨Nat.le_of_ble_eq_true rfl, Nat.le_of_ble_eq_true rfl⟩) hK hP hD hS hA hl.1 [] (by decide) rfl rfl rfl rfl rfl (Nat.le_of_ble_eq_true rfl) dL_act_140 ⟨Nat.le_of_ble_eq_true rfl, Nat.le_of_ble_eq_true rfl⟩ (fun H locs hP hD hS => ?_)
            refine lv_iadd hx hb dL_act_143 ?_
            exact w144 (2 + x140) hf _ _ _ hP hD hS (lv_sub hl [] rfl)
          · have hf := ite_f c_121 hf
            refine lv_iload_n hx hb dL_act_124 rfl (lv_at hl 2 rfl) ?_
            refine lv_iconst (v := 4) hx hb dL_act_125 (by decide) ?_
            refine lv_ishr hx hb dL_act_126 ?_
            refine lv_bipush (v := 7) hx hb dL_act_127 (by decide) ?_
            obtain ⟨x129, hy129, hf⟩ := Option.bind_eq_some_iff.mp hf
            refine clS_i (As := [.int (p1 >>> (4 &&& 31)), .int 7]) (rest := [.ref (ad 16)]) (wG cI ad size rc g fs st ln su rr cr bc bl td fi fa tk gr se sr) ⟨hx, hb, hml, hown, hts⟩ (K_L_low l D cI cZ H.size  (p1 >>> (4 &&& 31)) 7 _ hy129) (va_cwS 2 hts gL_act_L_low rfl rfl rfl (by decide +kernel) ⟨Nat.le_of_ble_eq_true rfl, Nat.le_of_ble_eq_true rfl⟩) hK hP hD hS hA hl.1 [] (by decide) rfl rfl rfl rfl rfl (Nat.le_of_ble_eq_true rfl) dL_act_129 ⟨Nat.le_of_ble_eq_true rfl, Nat.le_of_ble_eq_true rfl⟩ (fun H locs hP hD hS => ?_)
            refine lv_goto (tgt := 144) hx hb dL_act_132 (by decide) ?_
            exact w144 x129 hf _ _ _ hP hD hS (lv_sub hl [] rfl)
      have hf := ite_f c_60_0 hf
      rcases Decidable.em (x57 = 1) with c_60_1 | c_60_1
      · have hf := ite_t c_60_1 hf
        refine lv_tableIn (off := 96) (tgt := 156) hx hb dL_act_60 (by rw [c_60_1]; decide) (by rw [c_60_1]; decide) (by rw [c_60_1]; rfl) (by decide) ?_
        refine lv_aload_n hx hb dL_act_156 rfl (lv_at hl 1 rfl) ?_
        refine lv_iload_n hx hb dL_act_157 rfl (lv_at hl 0 rfl) ?_
        obtain ⟨x158, hy158, hf⟩ := Option.bind_eq_some_iff.mp hf
        refine clSW_i (As := [.ref (ad 16), .int t0_53]) (rest := []) (wG cI ad size x158.2.1 x158.2.2.1 x158.2.2.2.1 x158.2.2.2.2.1 x158.2.2.2.2.2.1 x158.2.2.2.2.2.2.1 x158.2.2.2.2.2.2.2.1 x158.2.2.2.2.2.2.2.2 bc bl td fi fa tk gr se sr) ⟨hx, hb, hml, hown, hts⟩ (K_L_bar l hst D cI cZ ad H.size N size rc g fs st ln su rr cr bc bl td fi fa tk gr se sr t0_53 _ hy158) (vx_cwSW 2 hts gL_act_L_bar rfl rfl rfl (by decide +kernel) ⟨Nat.le_of_ble_eq_true rfl, Nat.le_of_ble_eq_true rfl⟩) hK hXS hNC hP hD hS hA hl.1 [0, 1, 2, 3, 4, 5, 6, 7, 8, 9, 10, 11, 12, 13, 14, 15, 16] (by decide) rfl rfl rfl rfl rfl (Nat.le_of_ble_eq_true rfl) dL_act_158 ⟨Nat.le_of_ble_eq_true rfl, Nat.le_of_ble_eq_true rfl⟩ (fun H locs hP hD hS => ?_)
        cases hf
        exact hR _ _ _ _ _ _ _ _ rfl rfl hP hD hS (Nat.le_of_ble_eq_true rfl) (Nat.le_of_ble_eq_true rfl) dL_act_161
      have hf := ite_f c_60_1 hf
      rcases Decidable.em (x57 = 2) with c_60_2 | c_60_2
      · have hf := ite_t c_60_2 hf
        refine lv_tableIn (off := 102) (tgt := 162) hx hb dL_act_60 (by rw [c_60_2]; decide) (by rw [c_60_2]; decide) (by rw [c_60_2]; rfl) (by decide) ?_
        refine lv_aload_n hx hb dL_act_162 rfl (lv_at hl 1 rfl) ?_
        refine lv_iload_n hx hb dL_act_163 rfl (lv_at hl 0 rfl) ?_
        obtain ⟨x164, hy164, hf⟩ := Option.bind_eq_some_iff.mp hf
        refine clSW_i (As := [.ref (ad 16), .int t0_53]) (rest := []) (wG cI ad size x164.2.1 x164.2.2.1 x164.2.2.2.1 x164.2.2.2.2.1 x164.2.2.2.2.2.1 x164.2.2.2.2.2.2.1 x164.2.2.2.2.2.2.2.1 x164.2.2.2.2.2.2.2.2 bc bl td fi fa tk gr se sr) ⟨hx, hb, hml, hown, hts⟩ (K_L_barBoth l hst D cI cZ ad H.size N size rc g fs st ln su rr cr bc bl td fi fa tk gr se sr t0_53 _ hy164) (vx_cwSW 2 hts gL_act_L_barBoth rfl rfl rfl (by decide +kernel) ⟨Nat.le_of_ble_eq_true rfl, Nat.le_of_ble_eq_true rfl⟩) hK hXS hNC hP hD hS hA hl.1 [0, 1, 2, 3, 4, 5, 6, 7, 8, 9, 10, 11, 12, 13, 14, 15, 16] (by decide) rfl rfl rfl rfl rfl (Nat.le_of_ble_eq_true rfl) dL_act_164 ⟨Nat.le_of_ble_eq_true rfl, Nat.le_of_ble_eq_true rfl⟩ (fun H locs hP hD hS => ?_)
        cases hf
        exact hR _ _ _ _ _ _ _ _ rfl rfl hP hD hS (Nat.le_of_ble_eq_true rfl) (Nat.le_of_ble_eq_true rfl) dL_act_167
      have hf := ite_f c_60_2 hf
      rcases Decidable.em (x57 = 3) with c_60_3 | c_60_3
      · have hf := ite_t c_60_3 hf
        refine lv_tableIn (off := 108) (tgt := 168) hx hb dL_act_60 (by rw [c_60_3]; decide) (by rw [c_60_3]; decide) (by rw [c_60_3]; rfl) (by decide) ?_
        refine lv_aload_n hx hb dL_act_168 rfl (lv_at hl 1 rfl) ?_
        obtain ⟨x169, hy169, hf⟩ := Option.bind_eq_some_iff.mp hf
        refine clSW_i (As := [.ref (ad 16)]) (rest := []) (wG cI ad size rc x169.2.1 fs st ln x169.2.2 rr cr bc bl td fi fa tk gr se sr) ⟨hx, hb, hml, hown, hts⟩ (K_L_press l hst D cI cZ ad H.size N size rc g fs st ln su rr cr bc bl td fi fa tk gr se sr _ hy169) (vx_cwSW 1 hts gL_act_L_press rfl rfl rfl (by decide +kernel) ⟨Nat.le_of_ble_eq_true rfl, Nat.le_of_ble_eq_true rfl⟩) hK hXS hNC hP hD hS hA hl.1 [0, 1, 2, 3, 4, 5, 6, 7, 8, 9, 10, 11, 12, 13, 14, 15, 16] (by decide) rfl rfl rfl rfl rfl (Nat.le_of_ble_eq_true rfl) dL_act_169 ⟨Nat.le_of_ble_eq_true rfl, Nat.le_of_ble_eq_true rfl⟩ (fun H locs hP hD hS => ?_)
        cases hf
        exact hR _ _ _ _ _ _ _ _ rfl rfl hP hD hS (Nat.le_of_ble_eq_true rfl) (Nat.le_of_ble_eq_true rfl) dL_act_172
      have hf := ite_f c_60_3 hf
      rcases Decidable.em (x57 = 4) with c_60_4 | c_60_4
      · have hf := ite_t c_60_4 hf
        refine lv_tableIn (off := 113) (tgt := 173) hx hb dL_act_60 (by rw [c_60_4]; decide) (by rw [c_60_4]; decide) (by rw [c_60_4]; rfl) (by decide) ?_
        refine lv_aload_n hx hb dL_act_173 rfl (lv_at hl 1 rfl) ?_
        obtain ⟨x174, hy174, hf⟩ := Option.bind_eq_some_iff.mp hf
        refine clV_i (As := []) (rest := []) (wG cI ad size rc g fs st ln su rr cr bc bl td fi fa tk gr se sr) ⟨hx, hb, hml, hown, hts⟩ (K_X3_open l D cI cZ ad H.size N size rc g fs st ln su rr cr bc bl td fi fa tk gr se sr _ hy174) (cwV 0 hts gL_act_X3_open rfl rfl rfl (by decide +kernel) ⟨Nat.le_of_ble_eq_true rfl, Nat.le_of_ble_eq_true rfl⟩) hK hP hD hS hA hl.1 [0, 1, 2, 3, 4, 5, 6, 7, 8, 9, 10, 11, 12, 13, 14, 15, 16] (by decide) rfl rfl rfl 3 16 rfl rfl rfl rfl rfl (Nat.le_of_ble_eq_true rfl) dL_act_174 ⟨Nat.le_of_ble_eq_true rfl, Nat.le_of_ble_eq_true rfl⟩ (fun H locs hP hD hS => ?_)
        refine lv_bipush (v := 9) hx hb dL_act_177 (by decide) ?_
        refine lv_icmp_le (tgt := 186) hx hb dL_act_179 (by decide) (fun c_179 => ?_) (fun c_179 => ?_)
        · have hf := ite_t c_179 hf
          refine lv_aload_n hx hb dL_act_186 rfl (lv_at hl 1 rfl) ?_
          obtain ⟨x187, hy187, hf⟩ := Option.bind_eq_some_iff.mp hf
          refine clSW_i (As := [.ref (ad 16)]) (rest := []) (wG cI ad size rc x187.2.1 fs st ln su rr cr x187.2.2.1 x187.2.2.2.1 x187.2.2.2.2.1 x187.2.2.2.2.2.1 x187.2.2.2.2.2.2 tk gr se sr) ⟨hx, hb, hml, hown, hts⟩ (K_L_mend l hst D cI cZ ad H.size N size rc g fs st ln su rr cr bc bl td fi fa tk gr se sr _ hy187) (vx_cwSW 1 hts gL_act_L_mend rfl rfl rfl (by decide +kernel) ⟨Nat.le_of_ble_eq_true rfl, Nat.le_of_ble_eq_true rfl⟩) hK hXS hNC hP hD hS hA hl.1 [0, 1, 2, 3, 4, 5, 6, 7, 8, 9, 10, 11, 12, 13, 14, 15, 16] (by decide) rfl rfl rfl rfl rfl (Nat.le_of_ble_eq_true rfl) dL_act_187 ⟨Nat.le_of_ble_eq_true rfl, Nat.le_of_ble_eq_true rfl⟩ (fun H locs hP hD hS => ?_)
          cases hf
          exact hR _ _ _ _ _ _ _ _ rfl rfl hP hD hS (Nat.le_of_ble_eq_true rfl) (Nat.le_of_ble_eq_true rfl) dL_act_190
        · have hf := ite_f c_179 hf
          refine lv_iconst (v := 0) hx hb dL_act_182 (by decide) ?_
          refine lv_goto (tgt := 190) hx hb dL_act_183 (by decide) ?_
          cases hf
          exact hR _ _ _ _ _ _ _ _ rfl rfl hP hD hS (Nat.le_of_ble_eq_true rfl) (Nat.le_of_ble_eq_true rfl) dL_act_190
      have hf := ite_f c_60_4 hf
      rcases Decidable.em (x57 = 5) with c_60_5 | c_60_5
      · have hf := ite_t c_60_5 hf
        refine lv_tableIn (off := 131) (tgt := 191) hx hb dL_act_60 (by rw [c_60_5]; decide) (by rw [c_60_5]; decide) (by rw [c_60_5]; rfl) (by decide) ?_
        refine lv_aload_n hx hb dL_act_191 rfl (lv_at hl 1 rfl) ?_
        refine lv_iload_n hx hb dL_act_192 rfl (lv_at hl 2 rfl) ?_
        refine lv_iconst (v := 4) hx hb dL_act_193 (by decide) ?_
        refine lv_ishr hx hb dL_act_194 ?_
        refine lv_iload_n hx hb dL_act_195 rfl (lv_at hl 3 rfl) ?_
        obtain ⟨k210, hk210, hf⟩ := jn_some hf
        have w210 : ∀ (t0_210 : Int32), k210 t0_210 = some r → ∀ (H : Heap) (locs : List Loc) (ls : Array Slot), va_P D vwCl (wG cI ad size rc g fs st ln su rr cr bc bl td fi fa tk gr se sr) H → va_D A (wG cI ad size rc g fs st ln su rr cr bc bl td fi fa tk gr se sr) → va_S A s.heap H locs → lv_has ls 4 [(1, .int p1), (2, .int t0_17)] → W p l e rm_L_act s m args below meth c H locs 0 0 Q (F0 m 210 ls [.int t0_210, .int (p1 >>> (4 &&& 31)), .ref (ad 16)]) := by
          intro t0_210 hf H locs ls hP hD hS hl
          rw [hk210] at hf
          try dsimp only at hf
          obtain ⟨x210, hy210, hf⟩ := Option.bind_eq_some_iff.mp hf
          refine clS_i (As := [.int (p1 >>> (4 &&& 31)), .int t0_210]) (rest := [.ref (ad 16)]) (wG cI ad size rc g fs st ln su rr cr bc bl td fi fa tk gr se sr) ⟨hx, hb, hml, hown, hts⟩ (K_L_low l D cI cZ H.size  (p1 >>> (4 &&& 31)) t0_210 _ hy210) (va_cwS 2 hts gL_act_L_low rfl rfl rfl (by decide +kernel) ⟨Nat.le_of_ble_eq_true rfl, Nat.le_of_ble_eq_true rfl⟩) hK hP hD hS hA hl.1 [] (by decide) rfl rfl rfl rfl rfl (Nat.le_of_ble_eq_true rfl) dL_act_210 ⟨Nat.le_of_ble_eq_true rfl, Nat.le_of_ble_eq_true rfl⟩ (fun H locs hP hD hS => ?_)
          refine lv_iload_n hx hb dL_act_213 rfl (lv_at hl 1 rfl) ?_
          obtain ⟨k222, hk222, hf⟩ := jn_some hf
          have w222 : ∀ (t0_222 : Int32), k222 t0_222 = some r → ∀ (H : Heap) (locs : List Loc) (ls : Array Slot), va_P D vwCl (wG cI ad size rc g fs st ln su rr cr bc bl td fi fa tk gr se sr) H → va_D A (wG cI ad size rc g fs st ln su rr cr bc bl td fi fa tk gr se sr) → va_S A s.heap H locs → lv_has ls 4 [(1, .int p1), (2, .int t0_17)] → W p l e rm_L_act s m args below meth c H locs 0 0 Q (F0 m 222 ls [.int t0_222, .int x210, .ref (ad 16)]) := by
            intro t0_222 hf H locs ls hP hD hS hl
            rw [hk222] at hf
            try dsimp only at hf
            refine lv_isub hx hb dL_act_222 ?_
            refine lv_iload_n hx hb dL_act_223 rfl (lv_at hl 1 rfl) ?_
            obtain ⟨k252, hk252, hf⟩ := jn_some hf
            have w252 : ∀ (t0_252 : Int32), k252 t0_252 = some r → ∀ (H : Heap) (locs : List Loc) (ls : Array Slot), va_P D vwCl (wG cI ad size rc g fs st ln su rr cr bc bl td fi fa tk gr se sr) H → va_D A (wG cI ad size rc g fs st ln su rr cr bc bl td fi fa tk gr se sr) → va_S A s.heap H locs → lv_has ls 4 [] → W p l e rm_L_act s m args below meth c H locs 0 0 Q (F0 m 252 ls [.int t0_252, .int (x210 - t0_222), .ref (ad 16)]) := by
              intro t0_252 hf H locs ls hP hD hS hl
              rw [hk252] at hf
              try dsimp only at hf
              obtain ⟨x252, hy252, hf⟩ := Option.bind_eq_some_iff.mp hf
              refine clSW_i (As := [.ref (ad 16), .int (x210 - t0_222), .int t0_252]) (rest := []) (wG cI ad size rc g fs st ln x252.2 rr cr bc bl td fi fa tk gr se sr) ⟨hx, hb, hml, hown, hts⟩ (K_L_setSum l hst D cI cZ ad H.size size rc g fs st ln su rr cr bc bl td fi fa tk gr se sr (x210 - t0_222) t0_252 _ hy252) (vx_cwSW 3 hts gL_act_L_setSum rfl rfl rfl (by decide +kernel) ⟨Nat.le_of_ble_eq_true rfl, Nat.le_of_ble_eq_true rfl⟩) hK hXS hNC hP hD hS hA hl.1 [0, 1, 2, 3, 4, 5, 6, 7, 8, 9, 10, 11, 12, 13, 14, 15, 16] (by decide) rfl rfl rfl rfl rfl (Nat.le_of_ble_eq_true rfl) dL_act_252 ⟨Nat.le_of_ble_eq_true rfl, Nat.le_of_ble_eq_true rfl⟩ (fun H locs hP hD hS => ?_)
              cases hf
              exact hR _ _ _ _ _ _ _ _ rfl rfl hP hD hS (Nat.le_of_ble_eq_true rfl) (Nat.le_of_ble_eq_true rfl) dL_act_255
            refine lv_if_eq (tgt := 241) hx hb dL_act_224 (by decide) (fun c_224 => ?_) (fun c_224 => ?_)
            · have hf := ite_t c_224 hf
              refine lv_iconst (v := 3) hx hb dL_act_241 (by decide) ?_
              refine lv_iload_n hx hb dL_act_242 rfl (lv_at hl 0 rfl) ?_
              refine lv_bipush (v := 8) hx hb dL_act_243 (by decide) ?_
              refine lv_ishr hx hb dL_act_245 ?_
              refine lv_bipush (v := 17) hx hb dL_act_246 (by decide) ?_
              obtain ⟨x248, hy248, hf⟩ := Option.bind_eq_some_iff.mp hf
              refine clS_i (As := [.int (p1 >>> (8 &&& 31)), .int 17]) (rest := [.int 3, .int (x210 - t0_222), .ref (ad 16)]) (wG cI ad size rc g fs st ln su rr cr bc bl td fi fa tk gr se sr) ⟨hx, hb, hml, hown, hts⟩ (K_L_low l D cI cZ H.size  (p1 >>> (8 &&& 31)) 17 _ hy248) (va_cwS 2 hts gL_act_L_low rfl rfl rfl (by decide +kernel) ⟨Nat.le_of_ble_eq_true rfl, Nat.le_of_ble_eq_true rfl⟩) hK hP hD hS hA hl.1 [] (by decide) rfl rfl rfl rfl rfl (Nat.le_of_ble_eq_true rfl) dL_act_248 ⟨Nat.le_of_ble_eq_true rfl, Nat.le_of_ble_eq_true rfl⟩ (fun H locs hP hD hS => ?_)
              refine lv_iadd hx hb dL_act_251 ?_
              exact w252 (3 + x248) hf _ _ _ hP hD hS (lv_sub hl [] rfl)
            · have hf := ite_f c_224 hf
              refine lv_iload_n hx hb dL_act_227 rfl (lv_at hl 0 rfl) ?_
              refine lv_bipush (v := 8) hx hb dL_act_228 (by decide) ?_
              refine lv_ishr hx hb dL_act_230 ?_
              refine lv_bipush (v := 50) hx hb dL_act_231 (by decide) ?_
              obtain ⟨x233, hy233, hf⟩ := Option.bind_eq_some_iff.mp hf
              refine clS_i (As := [.int (p1 >>> (8 &&& 31)), .int 50]) (rest := [.int (x210 - t0_222), .ref (ad 16)]) (wG cI ad size rc g fs st ln su rr cr bc bl td fi fa tk gr se sr) ⟨hx, hb, hml, hown, hts⟩ (K_L_low l D cI cZ H.size  (p1 >>> (8 &&& 31)) 50 _ hy233) (va_cwS 2 hts gL_act_L_low rfl rfl rfl (by decide +kernel) ⟨Nat.le_of_ble_eq_true rfl, Nat.le_of_ble_eq_true rfl⟩) hK hP hD hS hA hl.1 [] (by decide) rfl rfl rfl rfl rfl (Nat.le_of_ble_eq_true rfl) dL_act_233 ⟨Nat.le_of_ble_eq_true rfl, Nat.le_of_ble_eq_true rfl⟩ (fun H locs hP hD hS => ?_)
              refine lv_iconst (v := 2) hx hb dL_act_236 (by decide) ?_
              refine lv_isub hx hb dL_act_237 ?_
              refine lv_goto (tgt := 252) hx hb dL_act_238 (by decide) ?_
              exact w252 (x233 - 2) hf _ _ _ hP hD hS (lv_sub hl [] rfl)
          refine lv_if_eq (tgt := 221) hx hb dL_act_214 (by decide) (fun c_214 => ?_) (fun c_214 => ?_)
          · have hf := ite_t c_214 hf
            refine lv_iconst (v := 0) hx hb dL_act_221 (by decide) ?_
            exact w222 0 hf _ _ _ hP hD hS (lv_sub hl [0, 1] rfl)
          · have hf := ite_f c_214 hf
            refine lv_iconst (v := 1) hx hb dL_act_217 (by decide) ?_
            refine lv_goto (tgt := 222) hx hb dL_act_218 (by decide) ?_
            exact w222 1 hf _ _ _ hP hD hS (lv_sub hl [0, 1] rfl)
        refine lv_if_eq (tgt := 204) hx hb dL_act_196 (by decide) (fun c_196 => ?_) (fun c_196 => ?_)
        · have hf := ite_t c_196 hf
          refine lv_aload_n hx hb dL_act_204 rfl (lv_at hl 1 rfl) ?_
          refine clV_i (As := []) (rest := [.int (p1 >>> (4 &&& 31)), .ref (ad 16)]) (wG cI ad size rc g fs st ln su rr cr bc bl td fi fa tk gr se sr) ⟨hx, hb, hml, hown, hts⟩ (K_X3_runs l D cI cZ ad H.size size rc g fs st ln su rr cr bc bl td fi fa tk gr se sr _ rfl) (cwV 0 hts gL_act_X3_runs rfl rfl rfl (by decide +kernel) ⟨Nat.le_of_ble_eq_true rfl, Nat.le_of_ble_eq_true rfl⟩) hK hP hD hS hA hl.1 [0, 1, 2, 3, 4, 5, 6, 7, 8, 9, 10, 11, 12, 13, 14, 15, 16] (by decide) rfl rfl rfl 3 16 rfl rfl rfl rfl rfl (Nat.le_of_ble_eq_true rfl) dL_act_205 ⟨Nat.le_of_ble_eq_true rfl, Nat.le_of_ble_eq_true rfl⟩ (fun H locs hP hD hS => ?_)
          refine lv_iconst (v := 1) hx hb dL_act_208 (by decide) ?_
          refine lv_iadd hx hb dL_act_209 ?_
          exact w210 ((f_X3_runs rc) + 1) hf _ _ _ hP hD hS (lv_sub hl [2, 3] rfl)
        · have hf := ite_f c_196 hf
          refine lv_bipush (v := 9) hx hb dL_act_199 (by decide) ?_
          refine lv_goto (tgt := 210) hx hb dL_act_201 (by decide) ?_
          exact w210 9 hf _ _ _ hP hD hS (lv_sub hl [2, 3] rfl)
      have hf := ite_f c_60_5 hf
      rcases Decidable.em (x57 = 6) with c_60_6 | c_60_6
      · have hf := ite_t c_60_6 hf
        refine lv_tableIn (off := 131) (tgt := 191) hx hb dL_act_60 (by rw [c_60_6]; decide) (by rw [c_60_6]; decide) (by rw [c_60_6]; rfl) (by decide) ?_
        refine lv_aload_n hx hb dL_act_191 rfl (lv_at hl 1 rfl) ?_
        refine lv_iload_n hx hb dL_act_192 rfl (lv_at hl 2 rfl) ?_
        refine lv_iconst (v := 4) hx hb dL_act_193 (by decide) ?_
        refine lv_ishr hx hb dL_act_194 ?_
        refine lv_iload_n hx hb dL_act_195 rfl (lv_at hl 3 rfl) ?_
        obtain ⟨k210, hk210, hf⟩ := jn_some hf
        have w210 : ∀ (t0_210 : Int32), k210 t0_210 = some r → ∀ (H : Heap) (locs : List Loc) (ls : Array Slot), va_P D vwCl (wG cI ad size rc g fs st ln su rr cr bc bl td fi fa tk gr se sr) H → va_D A (wG cI ad size rc g fs st ln su rr cr bc bl td fi fa tk gr se sr) → va_S A s.heap H locs → lv_has ls 4 [(1, .int p1), (2, .int t0_17)] → W p l e rm_L_act s m args below meth c H locs 0 0 Q (F0 m 210 ls [.int t0_210, .int (p1 >>> (4 &&& 31)), .ref (ad 16)]) := by
          intro t0_210 hf H locs ls hP hD hS hl
          rw [hk210] at hf
          try dsimp only at hf
          obtain ⟨x210, hy210, hf⟩ := Option.bind_eq_some_iff.mp hf
          refine clS_i (As := [.int (p1 >>> (4 &&& 31)), .int t0_210]) (rest := [.ref (ad 16)]) (wG cI ad size rc g fs st ln su rr cr bc bl td fi fa tk gr se sr) ⟨hx, hb, hml, hown, hts⟩ (K_L_low l D cI cZ H.size  (p1 >>> (4 &&& 31)) t0_210 _ hy210) (va_cwS 2 hts gL_act_L_low rfl rfl rfl (by decide +kernel) ⟨Nat.le_of_ble_eq_true rfl, Nat.le_of_ble_eq_true rfl⟩) hK hP hD hS hA hl.1 [] (by decide) rfl rfl rfl rfl rfl (Nat.le_of_ble_eq_true rfl) dL_act_210 ⟨Nat.le_of_ble_eq_true rfl, Nat.le_of_ble_eq_true rfl⟩ (fun H locs hP hD hS => ?_)
          refine lv_iload_n hx hb dL_act_213 rfl (lv_at hl 1 rfl) ?_
          obtain ⟨k222, hk222, hf⟩ := jn_some hf
          have w222 : ∀ (t0_222 : Int32), k222 t0_222 = some r → ∀ (H : Heap) (locs : List Loc) (ls : Array Slot), va_P D vwCl (wG cI ad size rc g fs st ln su rr cr bc bl td fi fa tk gr se sr) H → va_D A (wG cI ad size rc g fs st ln su rr cr bc bl td fi fa tk gr se sr) → va_S A s.heap H locs → lv_has ls 4 [(1, .int p1), (2, .int t0_17)] → W p l e rm_L_act s m args below meth c H locs 0 0 Q (F0 m 222 ls [.int t0_222, .int x210, .ref (ad 16)]) := by
            intro t0_222 hf H locs ls hP hD hS hl
            rw [hk222] at hf
            try dsimp only at hf
            refine lv_isub hx hb dL_act_222 ?_
            refine lv_iload_n hx hb dL_act_223 rfl (lv_at hl 1 rfl) ?_
            obtain ⟨k252, hk252, hf⟩ := jn_some hf
            have w252 : ∀ (t0_252 : Int32), k252 t0_252 = some r → ∀ (H : Heap) (locs : List Loc) (ls : Array Slot), va_P D vwCl (wG cI ad size rc g fs st ln su rr cr bc bl td fi fa tk gr se sr) H → va_D A (wG cI ad size rc g fs st ln su rr cr bc bl td fi fa tk gr se sr) → va_S A s.heap H locs → lv_has ls 4 [] → W p l e rm_L_act s m args below meth c H locs 0 0 Q (F0 m 252 ls [.int t0_252, .int (x210 - t0_222), .ref (ad 16)]) := by
              intro t0_252 hf H locs ls hP hD hS hl
              rw [hk252] at hf
              try dsimp only at hf
              obtain ⟨x252, hy252, hf⟩ := Option.bind_eq_some_iff.mp hf
              refine clSW_i (As := [.ref (ad 16), .int (x210 - t0_222), .int t0_252]) (rest := []) (wG cI ad size rc g fs st ln x252.2 rr cr bc bl td fi fa tk gr se sr) ⟨hx, hb, hml, hown, hts⟩ (K_L_setSum l hst D cI cZ ad H.size size rc g fs st ln su rr cr bc bl td fi fa tk gr se sr (x210 - t0_222) t0_252 _ hy252) (vx_cwSW 3 hts gL_act_L_setSum rfl rfl rfl (by decide +kernel) ⟨Nat.le_of_ble_eq_true rfl, Nat.le_of_ble_eq_true rfl⟩) hK hXS hNC hP hD hS hA hl.1 [0, 1, 2, 3, 4, 5, 6, 7, 8, 9, 10, 11, 12, 13, 14, 15, 16] (by decide) rfl rfl rfl rfl rfl (Nat.le_of_ble_eq_true rfl) dL_act_252 ⟨Nat.le_of_ble_eq_true rfl, Nat.le_of_ble_eq_true rfl⟩ (fun H locs hP hD hS => ?_)
              cases hf
              exact hR _ _ _ _ _ _ _ _ rfl rfl hP hD hS (Nat.le_of_ble_eq_true rfl) (Nat.le_of_ble_eq_true rfl) dL_act_255
            refine lv_if_eq (tgt := 241) hx hb dL_act_224 (by decide) (fun c_224 => ?_) (fun c_224 => ?_)
            · have hf := ite_t c_224 hf
              refine lv_iconst (v := 3) hx hb dL_act_241 (by decide) ?_
              refine lv_iload_n hx hb dL_act_242 rfl (lv_at hl 0 rfl) ?_
              refine lv_bipush (v := 8) hx hb dL_act_243 (by decide) ?_
              refine lv_ishr hx hb dL_act_245 ?_
              refine lv_bipush (v := 17) hx hb dL_act_246 (by decide) ?_
              obtain ⟨x248, hy248, hf⟩ := Option.bind_eq_some_iff.mp hf
              refine clS_i (As := [.int (p1 >>> (8 &&& 31)), .int 17]) (rest := [.int 3, .int (x210 - t0_222), .ref (ad 16)]) (wG cI ad size rc g fs st ln su rr cr bc bl td fi fa tk gr se sr) ⟨hx, hb, hml, hown, hts⟩ (K_L_low l D cI cZ H.size  (p1 >>> (8 &&& 31)) 17 _ hy248) (va_cwS 2 hts gL_act_L_low rfl rfl rfl (by decide +kernel) ⟨Nat.le_of_ble_eq_true rfl, Nat.le_of_ble_eq_true rfl⟩) hK hP hD hS hA hl.1 [] (by decide) rfl rfl rfl rfl rfl (Nat.le_of_ble_eq_true rfl) dL_act_248 ⟨Nat.le_of_ble_eq_true rfl, Nat.le_of_ble_eq_true rfl⟩ (fun H locs hP hD hS => ?_)
              refine lv_iadd hx hb dL_act_251 ?_
              exact w252 (3 + x248) hf _ _ _ hP hD hS (lv_sub hl [] rfl)
            · have hf := ite_f c_224 hf
              refine lv_iload_n hx hb dL_act_227 rfl (lv_at hl 0 rfl) ?_
              refine lv_bipush (v := 8) hx hb dL_act_228 (by decide) ?_
              refine lv_ishr hx hb dL_act_230 ?_
              refine lv_bipush (v := 50) hx hb dL_act_231 (by decide) ?_
              obtain ⟨x233, hy233, hf⟩ := Option.bind_eq_some_iff.mp hf
              refine clS_i (As := [.int (p1 >>> (8 &&& 31)), .int 50]) (rest := [.int (x210 - t0_222), .ref (ad 16)]) (wG cI ad size rc g fs st ln su rr cr bc bl td fi fa tk gr se sr) ⟨hx, hb, hml, hown, hts⟩ (K_L_low l D cI cZ H.size  (p1 >>> (8 &&& 31)) 50 _ hy233) (va_cwS 2 hts gL_act_L_low rfl rfl rfl (by decide +kernel) ⟨Nat.le_of_ble_eq_true rfl, Nat.le_of_ble_eq_true rfl⟩) hK hP hD hS hA hl.1 [] (by decide) rfl rfl rfl rfl rfl (Nat.le_of_ble_eq_true rfl) dL_act_233 ⟨Nat.le_of_ble_eq_true rfl, Nat.le_of_ble_eq_true rfl⟩ (fun H locs hP hD hS => ?_)
              refine lv_iconst (v := 2) hx hb dL_act_236 (by decide) ?_
              refine lv_isub hx hb dL_act_237 ?_
              refine lv_goto (tgt := 252) hx hb dL_act_238 (by decide) ?_
              exact w252 (x233 - 2) hf _ _ _ hP hD hS (lv_sub hl [] rfl)
          refine lv_if_eq (tgt := 221) hx hb dL_act_214 (by decide) (fun c_214 => ?_) (fun c_214 => ?_)
          · have hf := ite_t c_214 hf
            refine lv_iconst (v := 0) hx hb dL_act_221 (by decide) ?_
            exact w222 0 hf _ _ _ hP hD hS (lv_sub hl [0, 1] rfl)
          · have hf := ite_f c_214 hf
            refine lv_iconst (v := 1) hx hb dL_act_217 (by decide) ?_
            refine lv_goto (tgt := 222) hx hb dL_act_218 (by decide) ?_
            exact w222 1 hf _ _ _ hP hD hS (lv_sub hl [0, 1] rfl)
        refine lv_if_eq (tgt := 204) hx hb dL_act_196 (by decide) (fun c_196 => ?_) (fun c_196 => ?_)
        · have hf := ite_t c_196 hf
          refine lv_aload_n hx hb dL_act_204 rfl (lv_at hl 1 rfl) ?_
          refine clV_i (As := []) (rest := [.int (p1 >>> (4 &&& 31)), .ref (ad 16)]) (wG cI ad size rc g fs st ln su rr cr bc bl td fi fa tk gr se sr) ⟨hx, hb, hml, hown, hts⟩ (K_X3_runs l D cI cZ ad H.size size rc g fs st ln su rr cr bc bl td fi fa tk gr se sr _ rfl) (cwV 0 hts gL_act_X3_runs rfl rfl rfl (by decide +kernel) ⟨Nat.le_of_ble_eq_true rfl, Nat.le_of_ble_eq_true rfl⟩) hK hP hD hS hA hl.1 [0, 1, 2, 3, 4, 5, 6, 7, 8, 9, 10, 11, 12, 13, 14, 15, 16] (by decide) rfl rfl rfl 3 16 rfl rfl rfl rfl rfl (Nat.le_of_ble_eq_true rfl) dL_act_205 ⟨Nat.le_of_ble_eq_true rfl, Nat.le_of_ble_eq_true rfl⟩ (fun H locs hP hD hS => ?_)
          refine lv_iconst (v := 1) hx hb dL_act_208 (by decide) ?_
          refine lv_iadd hx hb dL_act_209 ?_
          exact w210 ((f_X3_runs rc) + 1) hf _ _ _ hP hD hS (lv_sub hl [2, 3] rfl)
        · have hf := ite_f c_196 hf
          refine lv_bipush (v := 9) hx hb dL_act_199 (by decide) ?_
          refine lv_goto (tgt := 210) hx hb dL_act_201 (by decide) ?_
          exact w210 9 hf _ _ _ hP hD hS (lv_sub hl [2, 3] rfl)
      have hf := ite_f c_60_6 hf
      rcases Decidable.em (x57 = 7) with c_60_7 | c_60_7
      · have hf := ite_t c_60_7 hf
        refine lv_tableIn (off := 131) (tgt := 191) hx hb dL_act_60 (by rw [c_60_7]; decide) (by rw [c_60_7]; decide) (by rw [c_60_7]; rfl) (by decide) ?_
        refine lv_aload_n hx hb dL_act_191 rfl (lv_at hl 1 rfl) ?_
        refine lv_iload_n hx hb dL_act_192 rfl (lv_at hl 2 rfl) ?_
        refine lv_iconst (v := 4) hx hb dL_act_193 (by decide) ?_
        refine lv_ishr hx hb dL_act_194 ?_
        refine lv_iload_n hx hb dL_act_195 rfl (lv_at hl 3 rfl) ?_
        obtain ⟨k210, hk210, hf⟩ := jn_some hf
        have w210 : ∀ (t0_210 : Int32), k210 t0_210 = some r → ∀ (H : Heap) (locs : List Loc) (ls : Array Slot), va_P D vwCl (wG cI ad size rc g fs st ln su rr cr bc bl td fi fa tk gr se sr) H → va_D A (wG cI ad size rc g fs st ln su rr cr bc bl td fi fa tk gr se sr) → va_S A s.heap H locs → lv_has ls 4 [(1, .int p1), (2, .int t0_17)] → W p l e rm_L_act s m args below meth c H locs 0 0 Q (F0 m 210 ls [.int t0_210, .int (p1 >>> (4 &&& 31)), .ref (ad 16)]) := by
          intro t0_210 hf H locs ls hP hD hS hl
          rw [hk210] at hf
          try dsimp only at hf
          obtain ⟨x210, hy210, hf⟩ := Option.bind_eq_some_iff.mp hf
          refine clS_i (As := [.int (p1 >>> (4 &&& 31)), .int t0_210]) (rest := [.ref (ad 16)]) (wG cI ad size rc g fs st ln su rr cr bc bl td fi fa tk gr se sr) ⟨hx, hb, hml, hown, hts⟩ (K_L_low l D cI cZ H.size  (p1 >>> (4 &&& 31)) t0_210 _ hy210) (va_cwS 2 hts gL_act_L_low rfl rfl rfl (by decide +kernel) ⟨Nat.le_of_ble_eq_true rfl, Nat.le_of_ble_eq_true rfl⟩) hK hP hD hS hA hl.1 [] (by decide) rfl rfl rfl rfl rfl (Nat.le_of_ble_eq_true rfl) dL_act_210 ⟨Nat.le_of_ble_eq_true rfl, Nat.le_of_ble_eq_true rfl⟩ (fun H locs hP hD hS => ?_)
          refine lv_iload_n hx hb dL_act_213 rfl (lv_at hl 1 rfl) ?_
          obtain ⟨k222, hk222, hf⟩ := jn_some hf
          have w222 : ∀ (t0_222 : Int32), k222 t0_222 = some r → ∀ (H : Heap) (locs : List Loc) (ls : Array Slot), va_P D vwCl (wG cI ad size rc g fs st ln su rr cr bc bl td fi fa tk gr se sr) H → va_D A (wG cI ad size rc g fs st ln su rr cr bc bl td fi fa tk gr se sr) → va_S A s.heap H locs → lv_has ls 4 [(1, .int p1), (2, .int t0_17)] → W p l e rm_L_act s m args below meth c H locs 0 0 Q (F0 m 222 ls [.int t0_222, .int x210, .ref (ad 16)]) := by
            intro t0_222 hf H locs ls hP hD hS hl
            rw [hk222] at hf
            try dsimp only at hf
            refine lv_isub hx hb dL_act_222 ?_
            refine lv_iload_n hx hb dL_act_223 rfl (lv_at hl 1 rfl) ?_
            obtain ⟨k252, hk252, hf⟩ := jn_some hf
            have w252 : ∀ (t0_252 : Int32), k252 t0_252 = some r → ∀ (H : Heap) (locs : List Loc) (ls : Array Slot), va_P D vwCl (wG cI ad size rc g fs st ln su rr cr bc bl td fi fa tk gr se sr) H → va_D A (wG cI ad size rc g fs st ln su rr cr bc bl td fi fa tk gr se sr) → va_S A s.heap H locs → lv_has ls 4 [] → W p l e rm_L_act s m args below meth c H locs 0 0 Q (F0 m 252 ls [.int t0_252, .int (x210 - t0_222), .ref (ad 16)]) := by
              intro t0_252 hf H locs ls hP hD hS hl
              rw [hk252] at hf
              try dsimp only at hf
              obtain ⟨x252, hy252, hf⟩ := Option.bind_eq_some_iff.mp hf
              refine clSW_i (As := [.ref (ad 16), .int (x210 - t0_222), .int t0_252]) (rest := []) (wG cI ad size rc g fs st ln x252.2 rr cr bc bl td fi fa tk gr se sr) ⟨hx, hb, hml, hown, hts⟩ (K_L_setSum l hst D cI cZ ad H.size size rc g fs st ln su rr cr bc bl td fi fa tk gr se sr (x210 - t0_222) t0_252 _ hy252) (vx_cwSW 3 hts gL_act_L_setSum rfl rfl rfl (by decide +kernel) ⟨Nat.le_of_ble_eq_true rfl, Nat.le_of_ble_eq_true rfl⟩) hK hXS hNC hP hD hS hA hl.1 [0, 1, 2, 3, 4, 5, 6, 7, 8, 9, 10, 11, 12, 13, 14, 15, 16] (by decide) rfl rfl rfl rfl rfl (Nat.le_of_ble_eq_true rfl) dL_act_252 ⟨Nat.le_of_ble_eq_true rfl, Nat.le_of_ble_eq_true rfl⟩ (fun H locs hP hD hS => ?_)
              cases hf
              exact hR _ _ _ _ _ _ _ _ rfl rfl hP hD hS (Nat.le_of_ble_eq_true rfl) (Nat.le_of_ble_eq_true rfl) dL_act_255
            refine lv_if_eq (tgt := 241) hx hb dL_act_224 (by decide) (fun c_224 => ?_) (fun c_224 => ?_)
            · have hf := ite_t c_224 hf
              refine lv_iconst (v := 3) hx hb dL_act_241 (by decide) ?_
              refine lv_iload_n hx hb dL_act_242 rfl (lv_at hl 0 rfl) ?_
              refine lv_bipush (v := 8) hx hb dL_act_243 (by decide) ?_
              refine lv_ishr hx hb dL_act_245 ?_
              refine lv_bipush (v := 17) hx hb dL_act_246 (by decide) ?_
              obtain ⟨x248, hy248, hf⟩ := Option.bind_eq_some_iff.mp hf
              refine clS_i (As := [.int (p1 >>> (8 &&& 31)), .int 17]) (rest := [.int 3, .int (x210 - t0_222), .ref (ad 16)]) (wG cI ad size rc g fs st ln su rr cr bc bl td fi fa tk gr se sr) ⟨hx, hb, hml, hown, hts⟩ (K_L_low l D cI cZ H.size  (p1 >>> (8 &&& 31)) 17 _ hy248) (va_cwS 2 hts gL_act_L_low rfl rfl rfl (by decide +kernel) ⟨Nat.le_of_ble_eq_true rfl, Nat.le_of_ble_eq_true rfl⟩) hK hP hD hS hA hl.1 [] (by decide) rfl rfl rfl rfl rfl (Nat.le_of_ble_eq_true rfl) dL_act_248 ⟨Nat.le_of_ble_eq_true rfl, Nat.le_of_ble_eq_true rfl⟩ (fun H locs hP hD hS => ?_)
              refine lv_iadd hx hb dL_act_251 ?_
              exact w252 (3 + x248) hf _ _ _ hP hD hS (lv_sub hl [] rfl)
            · have hf := ite_f c_224 hf
              refine lv_iload_n hx hb dL_act_227 rfl (lv_at hl 0 rfl) ?_
              refine lv_bipush (v := 8) hx hb dL_act_228 (by decide) ?_
              refine lv_ishr hx hb dL_act_230 ?_
              refine lv_bipush (v := 50) hx hb dL_act_231 (by decide) ?_
              obtain ⟨x233, hy233, hf⟩ := Option.bind_eq_some_iff.mp hf
              refine clS_i (As := [.int (p1 >>> (8 &&& 31)), .int 50]) (rest := [.int (x210 - t0_222), .ref (ad 16)]) (wG cI ad size rc g fs st ln su rr cr bc bl td fi fa tk gr se sr) ⟨hx, hb, hml, hown, hts⟩ (K_L_low l D cI cZ H.size  (p1 >>> (8 &&& 31)) 50 _ hy233) (va_cwS 2 hts gL_act_L_low rfl rfl rfl (by decide +kernel) ⟨Nat.le_of_ble_eq_true rfl, Nat.le_of_ble_eq_true rfl⟩) hK hP hD hS hA hl.1 [] (by decide) rfl rfl rfl rfl rfl (Nat.le_of_ble_eq_true rfl) dL_act_233 ⟨Nat.le_of_ble_eq_true rfl, Nat.le_of_ble_eq_true rfl⟩ (fun H locs hP hD hS => ?_)
              refine lv_iconst (v := 2) hx hb dL_act_236 (by decide) ?_
              refine lv_isub hx hb dL_act_237 ?_
              refine lv_goto (tgt := 252) hx hb dL_act_238 (by decide) ?_
              exact w252 (x233 - 2) hf _ _ _ hP hD hS (lv_sub hl [] rfl)
          refine lv_if_eq (tgt := 221) hx hb dL_act_214 (by decide) (fun c_214 => ?_) (fun c_214 => ?_)
          · have hf := ite_t c_214 hf
            refine lv_iconst (v := 0) hx hb dL_act_221 (by decide) ?_
            exact w222 0 hf _ _ _ hP hD hS (lv_sub hl [0, 1] rfl)
          · have hf := ite_f c_214 hf
            refine lv_iconst (v := 1) hx hb dL_act_217 (by decide) ?_
            refine lv_goto (tgt := 222) hx hb dL_act_218 (by decide) ?_
            exact w222 1 hf _ _ _ hP hD hS (lv_sub hl [0, 1] rfl)
        refine lv_if_eq (tgt := 204) hx hb dL_act_196 (by decide) (fun c_196 => ?_) (fun c_196 => ?_)
        · have hf := ite_t c_196 hf
          refine lv_aload_n hx hb dL_act_204 rfl (lv_at hl 1 rfl) ?_
          refine clV_i (As := []) (rest := [.int (p1 >>> (4 &&& 31)), .ref (ad 16)]) (wG cI ad size rc g fs st ln su rr cr bc bl td fi fa tk gr se sr) ⟨hx, hb, hml, hown, hts⟩ (K_X3_runs l D cI cZ ad H.size size rc g fs st ln su rr cr bc bl td fi fa tk gr se sr _ rfl) (cwV 0 hts gL_act_X3_runs rfl rfl rfl (by decide +kernel) ⟨Nat.le_of_ble_eq_true rfl, Nat.le_of_ble_eq_true rfl⟩) hK hP hD hS hA hl.1 [0, 1, 2, 3, 4, 5, 6, 7, 8, 9, 10, 11, 12, 13, 14, 15, 16] (by decide) rfl rfl rfl 3 16 rfl rfl rfl rfl rfl (Nat.le_of_ble_eq_true rfl) dL_act_205 ⟨Nat.le_of_ble_eq_true rfl, Nat.le_of_ble_eq_true rfl⟩ (fun H locs hP hD hS => ?_)
          refine lv_iconst (v := 1) hx hb dL_act_208 (by decide) ?_
          refine lv_iadd hx hb dL_act_209 ?_
          exact w210 ((f_X3_runs rc) + 1) hf _ _ _ hP hD hS (lv_sub hl [2, 3] rfl)
        · have hf := ite_f c_196 hf
          refine lv_bipush (v := 9) hx hb dL_act_199 (by decide) ?_
          refine lv_goto (tgt := 210) hx hb dL_act_201 (by decide) ?_
          exact w210 9 hf _ _ _ hP hD hS (lv_sub hl [2, 3] rfl)
      have hf := ite_f c_60_7 hf
      have hcs : ∀ k : Nat, k < 8 → ¬ x57 = Int32.ofNat k := by
        intro k hk
        rcases (show k = 0 ∨ k = 1 ∨ k = 2 ∨ k = 3 ∨ k = 4 ∨ k = 5 ∨ k = 6 ∨ k = 7 by omega) with rfl | rfl | rfl | rfl | rfl | rfl | rfl | rfl
        · exact c_60_0
        · exact c_60_1
        · exact c_60_2
        · exact c_60_3
        · exact c_60_4
        · exact c_60_5
        · exact c_60_6
        · exact c_60_7
      refine lv_tableOut (tgt := 256) hx hb dL_act_60 (tbl_out hcs) (by decide) ?_
      refine lv_aload_n hx hb dL_act_256 rfl (lv_at hl 1 rfl) ?_
      refine lv_iload_n hx hb dL_act_257 rfl (lv_at hl 0 rfl) ?_
      refine lv_iload_n hx hb dL_act_258 rfl (lv_at hl 3 rfl) ?_
      obtain ⟨k285, hk285, hf⟩ := jn_some hf
      have w285 : ∀ (t0_285 : Int32), k285 t0_285 = some r → ∀ (H : Heap) (locs : List Loc) (ls : Array Slot), va_P D vwCl (wG cI ad size rc g fs st ln su rr cr bc bl td fi fa tk gr se sr) H → va_D A (wG cI ad size rc g fs st ln su rr cr bc bl td fi fa tk gr se sr) → va_S A s.heap H locs → lv_has ls 4 [] → W p l e rm_L_act s m args below meth c H locs 0 0 Q (F0 m 285 ls [.int t0_285, .int t0_53, .ref (ad 16)]) := by
        intro t0_285 hf H locs ls hP hD hS hl
        rw [hk285] at hf
        try dsimp only at hf
        obtain ⟨x285, hy285, hf⟩ := Option.bind_eq_some_iff.mp hf
        refine clSW_i (As := [.ref (ad 16), .int t0_53, .int t0_285]) (rest := []) (wG cI ad size rc x285.2 fs st ln su rr cr bc bl td fi fa tk gr se sr) ⟨hx, hb, hml, hown, hts⟩ (K_L_give l hst D cI cZ ad H.size size rc g fs st ln su rr cr bc bl td fi fa tk gr se sr t0_53 t0_285 _ hy285) (vx_cwSW 3 hts gL_act_L_give rfl rfl rfl (by decide +kernel) ⟨Nat.le_of_ble_eq_true rfl, Nat.le_of_ble_eq_true rfl⟩) hK hXS hNC hP hD hS hA hl.1 [0, 1, 2, 3, 4, 5, 6, 7, 8, 9, 10, 11, 12, 13, 14, 15, 16] (by decide) rfl rfl rfl rfl rfl (Nat.le_of_ble_eq_true rfl) dL_act_285 ⟨Nat.le_of_ble_eq_true rfl, Nat.le_of_ble_eq_true rfl⟩ (fun H locs hP hD hS => ?_)
        cases hf
        exact hR _ _ _ _ _ _ _ _ rfl rfl hP hD hS (Nat.le_of_ble_eq_true rfl) (Nat.le_of_ble_eq_true rfl) dL_act_288
      refine lv_if_eq (tgt := 276) hx hb dL_act_259 (by decide) (fun c_259 => ?_) (fun c_259 => ?_)
      · have hf := ite_t c_259 hf
        refine lv_iload_n hx hb dL_act_276 rfl (lv_at hl 2 rfl) ?_
        refine lv_bipush (v := 8) hx hb dL_act_277 (by decide) ?_
        refine lv_ishr hx hb dL_act_279 ?_
        refine lv_bipush (v := 10) hx hb dL_act_280 (by decide) ?_
        obtain ⟨x282, hy282, hf⟩ := Option.bind_eq_some_iff.mp hf
        refine clS_i (As := [.int (p1 >>> (8 &&& 31)), .int 10]) (rest := [.int t0_53, .ref (ad 16)]) (wG cI ad size rc g fs st ln su rr cr bc bl td fi fa tk gr se sr) ⟨hx, hb, hml, hown, hts⟩ (K_L_low l D cI cZ H.size  (p1 >>> (8 &&& 31)) 10 _ hy282) (va_cwS 2 hts gL_act_L_low rfl rfl rfl (by decide +kernel) ⟨Nat.le_of_ble_eq_true rfl, Nat.le_of_ble_eq_true rfl⟩) hK hP hD hS hA hl.1 [] (by decide) rfl rfl rfl rfl rfl (Nat.le_of_ble_eq_true rfl) dL_act_282 ⟨Nat.le_of_ble_eq_true rfl, Nat.le_of_ble_eq_true rfl⟩ (fun H locs hP hD hS => ?_)
        exact w285 x282 hf _ _ _ hP hD hS (lv_sub hl [] rfl)
      · have hf := ite_f c_259 hf
        refine lv_iload_n hx hb dL_act_262 rfl (lv_at hl 2 rfl) ?_
        refine lv_bipush (v := 8) hx hb dL_act_263 (by decide) ?_
        refine lv_ishr hx hb dL_act_265 ?_
        refine lv_bipush (v := 13) hx hb dL_act_266 (by decide) ?_
        obtain ⟨x268, hy268, hf⟩ := Option.bind_eq_some_iff.mp hf
        refine clS_i (As := [.int (p1 >>> (8 &&& 31)), .int 13]) (rest := [.int t0_53, .ref (ad 16)]) (wG cI ad size rc g fs st ln su rr cr bc bl td fi fa tk gr se sr) ⟨hx, hb, hml, hown, hts⟩ (K_L_low l D cI cZ H.size  (p1 >>> (8 &&& 31)) 13 _ hy268) (va_cwS 2 hts gL_act_L_low rfl rfl rfl (by decide +kernel) ⟨Nat.le_of_ble_eq_true rfl, Nat.le_of_ble_eq_true rfl⟩) hK hP hD hS hA hl.1 [] (by decide) rfl rfl rfl rfl rfl (Nat.le_of_ble_eq_true rfl) dL_act_268 ⟨Nat.le_of_ble_eq_true rfl, Nat.le_of_ble_eq_true rfl⟩ (fun H locs hP hD hS => ?_)
        refine lv_iconst (v := 2) hx hb dL_act_271 (by decide) ?_
        refine lv_isub hx hb dL_act_272 ?_
        refine lv_goto (tgt := 285) hx hb dL_act_273 (by decide) ?_
        exact w285 (x268 - 2) hf _ _ _ hP hD hS (lv_sub hl [] rfl)
    refine lv_if_eq (tgt := 35) hx hb dL_act_19 (by decide) (fun c_19 => ?_) (fun c_19 => ?_)
    · have hf := ite_t c_19 hf
      refine lv_iconst (v := 4) hx hb dL_act_35 (by decide) ?_
      refine lv_iload_n hx hb dL_act_36 rfl (lv_at hl 2 rfl) ?_
      refine lv_iconst (v := 4) hx hb dL_act_37 (by decide) ?_
      refine lv_ishr hx hb dL_act_38 ?_
      refine lv_iconst (v := 3) hx hb dL_act_39 (by decide) ?_
      obtain ⟨x40, hy40, hf⟩ := Option.bind_eq_some_iff.mp hf
      refine clS_i (As := [.int (p1 >>> (4 &&& 31)), .int 3]) (rest := [.int 4]) (wG cI ad size rc g fs st ln su rr cr bc bl td fi fa tk gr se sr) ⟨hx, hb, hml, hown, hts⟩ (K_L_low l D cI cZ H.size  (p1 >>> (4 &&& 31)) 3 _ hy40) (va_cwS 2 hts gL_act_L_low rfl rfl rfl (by decide +kernel) ⟨Nat.le_of_ble_eq_true rfl, Nat.le_of_ble_eq_true rfl⟩) hK hP hD hS hA hl.1 [] (by decide) rfl rfl rfl rfl rfl (Nat.le_of_ble_eq_true rfl) dL_act_40 ⟨Nat.le_of_ble_eq_true rfl, Nat.le_of_ble_eq_true rfl⟩ (fun H locs hP hD hS => ?_)
      refine lv_imul hx hb dL_act_43 ?_
      refine lv_iload_n hx hb dL_act_44 rfl (lv_at hl 2 rfl) ?_
      refine lv_bipush (v := 6) hx hb dL_act_45 (by decide) ?_
      refine lv_ishr hx hb dL_act_47 ?_
      refine lv_iconst (v := 3) hx hb dL_act_48 (by decide) ?_
      obtain ⟨x49, hy49, hf⟩ := Option.bind_eq_some_iff.mp hf
      refine clS_i (As := [.int (p1 >>> (6 &&& 31)), .int 3]) (rest := [.int (4 * x40)]) (wG cI ad size rc g fs st ln su rr cr bc bl td fi fa tk gr se sr) ⟨hx, hb, hml, hown, hts⟩ (K_L_low l D cI cZ H.size  (p1 >>> (6 &&& 31)) 3 _ hy49) (va_cwS 2 hts gL_act_L_low rfl rfl rfl (by decide +kernel) ⟨Nat.le_of_ble_eq_true rfl, Nat.le_of_ble_eq_true rfl⟩) hK hP hD hS hA hl.1 [] (by decide) rfl rfl rfl rfl rfl (Nat.le_of_ble_eq_true rfl) dL_act_49 ⟨Nat.le_of_ble_eq_true rfl, Nat.le_of_ble_eq_true rfl⟩ (fun H locs hP hD hS => ?_)
      refine lv_iadd hx hb dL_act_52 ?_
      exact w53 ((4 * x40) + x49) hf _ _ _ hP hD hS (lv_sub hl [1, 2, 0] rfl)
    · have hf := ite_f c_19 hf
      refine lv_iload_n hx hb dL_act_22 rfl (lv_at hl 2 rfl) ?_
      refine lv_iconst (v := 4) hx hb dL_act_23 (by decide) ?_
      refine lv_ishr hx hb dL_act_24 ?_
      refine lv_bipush (v := 19) hx hb dL_act_25 (by decide) ?_
      obtain ⟨x27, hy27, hf⟩ := Option.bind_eq_some_iff.mp hf
      refine clS_i (As := [.int (p1 >>> (4 &&& 31)), .int 19]) (rest := []) (wG cI ad size rc g fs st ln su rr cr bc bl td fi fa tk gr se sr) ⟨hx, hb, hml, hown, hts⟩ (K_L_low l D cI cZ H.size  (p1 >>> (4 &&& 31)) 19 _ hy27) (va_cwS 2 hts gL_act_L_low rfl rfl rfl (by decide +kernel) ⟨Nat.le_of_ble_eq_true rfl, Nat.le_of_ble_eq_true rfl⟩) hK hP hD hS hA hl.1 [] (by decide) rfl rfl rfl rfl rfl (Nat.le_of_ble_eq_true rfl) dL_act_27 ⟨Nat.le_of_ble_eq_true rfl, Nat.le_of_ble_eq_true rfl⟩ (fun H locs hP hD hS => ?_)
      refine lv_iconst (v := 1) hx hb dL_act_30 (by decide) ?_
      refine lv_isub hx hb dL_act_31 ?_
      refine lv_goto (tgt := 53) hx hb dL_act_32 (by decide) ?_
      exact w53 (x27 - 1) hf _ _ _ hP hD hS (lv_sub hl [1, 2, 0] rfl)
  refine lv_if_ne (tgt := 16) hx hb dL_act_9 (by decide) (fun c_9 => ?_) (fun c_9 => ?_)
  · have hf := ite_f c_9 hf
    refine lv_iconst (v := 0) hx hb dL_act_16 (by decide) ?_
    exact w17 0 hf _ _ _ hP hD hS (lv_sub hl [0, 1] rfl)
  · have hf := ite_t c_9 hf
    refine lv_iconst (v := 1) hx hb dL_act_12 (by decide) ?_
    refine lv_goto (tgt := 17) hx hb dL_act_13 (by decide) ?_
    exact w17 1 hf _ _ _ hP hD hS (lv_sub hl [0, 1] rfl)
