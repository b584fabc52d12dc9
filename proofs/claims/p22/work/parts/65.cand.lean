def f_L_areCandidatesSo (N : Nat) (size : Int32) (rc : Int32) (g : Nat → Int32) (fs : Nat → Int32) (st : Nat → Int32) (ln : Nat → Int32) (su : Nat → Int32) (tk : Int32) (gr : Int32) (se : Nat → Int32) (sr : Nat → Int32) (p1 : Int32) : Option (Int32 × Int32 × Int32 × (Nat → Int32) × (Nat → Int32)) :=
  (f_L_digit size g p1).bind fun x2 => (f_L_candidates N size rc g fs st ln su tk gr se sr p1 0).bind fun x9 => (if 0 ≤ x2 then jn (fun (t0_52 : Int32) => (if x9.1 = t0_52 then (f_X3_level N size rc g fs st ln su x9.2.1 x9.2.2.1 x9.2.2.2.1 x9.2.2.2.2).bind fun x58 => (f_X3_hint N size rc g fs st ln su x58.2.1 x58.2.2.1 x58.2.2.2.1 x58.2.2.2.2).bind fun x64 => (f_X3_hintRules N size rc g fs st ln su x64.2.1 x64.2.2.1 x64.2.2.2.1 x64.2.2.2.2).bind fun x70 => (f_L_candidates N size rc g fs st ln su x70.2.1 x70.2.2.1 x70.2.2.2.1 x70.2.2.2.2 p1 3).bind fun x78 => (f_L_candidates N size rc g fs st ln su x78.2.1 x78.2.2.1 x78.2.2.2.1 x78.2.2.2.2 p1 1).bind fun x86 => (f_L_candidates N size rc g fs st ln su x86.2.1 x86.2.2.1 x86.2.2.2.1 x86.2.2.2.2 p1 1).bind fun x92 => jn (fun (t0_171 : Int32) => jn (fun (_ : Unit) => jn (fun (_ : Unit) => some (0, x92.2.1, x92.2.2.1, x92.2.2.2.1, x92.2.2.2.2)) fun k203 => (if t0_171 = 0 then k203 () else jn (fun (_ : Unit) => some (1, x92.2.1, x92.2.2.1, x92.2.2.2.1, x92.2.2.2.2)) fun k199 => (if x58.1 < 1 then k199 () else (if x64.1 < 0 then k203 () else k199 ())))) fun k183 => (if t0_171 = 0 then k183 () else (if 0 ≤ x64.1 then (f_L_candidates N size rc g fs st ln su x92.2.1 x92.2.2.1 x92.2.2.2.1 x92.2.2.2.2 x64.1 x70.1).bind fun x210 => (f_L_digit size g x64.1).bind fun x218 => jn (fun (_ : Unit) => some (0, x210.2.1, x210.2.2.1, x210.2.2.2.1, x210.2.2.2.2)) fun k255 => (if x218 = 0 then (if x210.1 = 0 then k255 () else (if (x210.1 &&& (x210.1 - 1)) = 0 then (if x70.1 < 1 then k255 () else (if 3 < x70.1 then k255 () else some (1, x210.2.1, x210.2.2.1, x210.2.2.2.1, x210.2.2.2.2))) else k255 ())) else k255 ()) else k183 ()))) fun k171 => jn (fun (_ : Unit) => k171 0) fun k170 => (if x86.1 = (x92.1 &&& x9.1) then (if (x78.1 &&& (x9.1 ^^^ (-1))) = 0 then (if x58.1 < (-1) then k170 () else (if 3 < x58.1 then k170 () else jn (fun (t0_132 : Int32) => jn (fun (t0_143 : Int32) => (if t0_132 = t0_143 then jn (fun (_ : Unit) => k171 1) fun k166 => (if x58.1 < 0 then k166 () else (if x78.1 = 0 then k170 () else (if (x78.1 &&& (x78.1 - 1)) = 0 then k166 () else k170 ()))) else k170 ())) fun k143 => (if x70.1 = (-1) then k143 1 else k143 0)) fun k132 => (if x64.1 = (-1) then k132 1 else k132 0))) else k170 ()) else k170 ()) else some (0, x9.2.1, x9.2.2.1, x9.2.2.2.1, x9.2.2.2.2))) fun k52 => (if x2 ≤ 0 then k52 1022 else k52 (1 <<< (x2 &&& 31))) else jn (fun (t0_29 : Int32) => (if x9.1 = t0_29 then some (1, x9.2.1, x9.2.2.1, x9.2.2.2.1, x9.2.2.2.2) else some (0, x9.2.1, x9.2.2.1, x9.2.2.2.1, x9.2.2.2.2))) fun k29 => (if x2 = (-1) then k29 0 else k29 (-2)))
def rm_L_areCandidatesSo : Room := { frames := 12, cells := 12, slots := 72, locals := 623 }
set_option maxRecDepth 100000 in
set_option maxHeartbeats 16000000 in
theorem K_L_areCandidatesSo (l : Launch) (hst : l.stackTraces = false) (D : va_G) (cI cZ : ClassId) (ad : Nat → Nat) (sz : Nat) (N : Nat) (size rc : Int32) (g fs st ln su rr cr : Nat → Int32) (bc : Int32) (bl td fi fa : Nat → Int32) (tk gr : Int32) (se sr : Nat → Int32) (p1 : Int32) (r : (Int32 × Int32 × Int32 × (Nat → Int32) × (Nat → Int32))) (hf : f_L_areCandidatesSo N size rc g fs st ln su tk gr se sr p1 = some r) : Met l yL_areCandidatesSo wsL_areCandidatesSo rm_L_areCandidatesSo (PL D cI cZ sz [.ref (ad 16), .int p1] (wG cI ad size rc g fs st ln su rr cr bc bl td fi fa tk gr se sr)) (QI D cI cZ sz (wG cI ad size rc g fs st ln su rr cr bc bl td fi fa tk gr se sr) r.1 (wG cI ad size rc g fs st ln su rr cr bc bl td fi fa r.2.1 r.2.2.1 r.2.2.2.1 r.2.2.2.2)) 12 72 (va_A (wG cI ad size rc g fs st ln su rr cr bc bl td fi fa tk gr se sr) sz) := by
  refine mkp_z (cc := cL_areCandidatesSo) (maxL := 10) (lv0 := [(0, .ref (ad 16)), (1, .int p1)]) rfl (by decide) rfl (Nat.le_of_ble_eq_true rfl) rfl ?_
  intro p e s m args below meth c ls A Q H hx hb hml hown hts hK hXS hNC hP hD hA hS hl hR
  rw [f_L_areCandidatesSo] at hf
  refine lv_aload_n hx hb dL_areCandidatesSo_0 rfl (lv_at hl 0 rfl) ?_
  refine lv_iload_n hx hb dL_areCandidatesSo_1 rfl (lv_at hl 1 rfl) ?_
  obtain ⟨x2, hy2, hf⟩ := Option.bind_eq_some_iff.mp hf
  refine clSW_i (As := [.ref (ad 16), .int p1]) (rest := []) (wG cI ad size rc g fs st ln su rr cr bc bl td fi fa tk gr se sr) ⟨hx, hb, hml, hown, hts⟩ (K_L_digit l hst D cI cZ ad H.size size rc g fs st ln su rr cr bc bl td fi fa tk gr se sr p1 _ hy2) (vx_cwSW 2 hts gL_areCandidatesSo_L_digit rfl rfl rfl (by decide +kernel) ⟨Nat.le_of_ble_eq_true rfl, Nat.le_of_ble_eq_true rfl⟩) hK hXS hNC hP hD hS hA hl.1 [0, 1, 2, 3, 4, 5, 6, 7, 8, 9, 10, 11, 12, 13, 14, 15, 16] (by decide) rfl rfl rfl rfl rfl (Nat.le_of_ble_eq_true rfl) dL_areCandidatesSo_2 ⟨Nat.le_of_ble_eq_true rfl, Nat.le_of_ble_eq_true rfl⟩ (fun H locs hP hD hS => ?_)
  refine lv_istore_n (lv' := [(2, .int x2), (0, .ref (ad 16)), (1, .int p1)]) hx hb dL_areCandidatesSo_5 rfl hl (by decide) rfl (fun ls hl => ?_)
  refine lv_aload_n hx hb dL_areCandidatesSo_6 rfl (lv_at hl 1 rfl) ?_
  refine lv_iload_n hx hb dL_areCandidatesSo_7 rfl (lv_at hl 2 rfl) ?_
  refine lv_iconst (v := 0) hx hb dL_areCandidatesSo_8 (by decide) ?_
  obtain ⟨x9, hy9, hf⟩ := Option.bind_eq_some_iff.mp hf
  refine clSW_i (As := [.ref (ad 16), .int p1, .int 0]) (rest := []) (wG cI ad size rc g fs st ln su rr cr bc bl td fi fa x9.2.1 x9.2.2.1 x9.2.2.2.1 x9.2.2.2.2) ⟨hx, hb, hml, hown, hts⟩ (K_L_candidates l hst D cI cZ ad H.size N size rc g fs st ln su rr cr bc bl td fi fa tk gr se sr p1 0 _ hy9) (vx_cwSW 3 hts gL_areCandidatesSo_L_candidates rfl rfl rfl (by decide +kernel) ⟨Nat.le_of_ble_eq_true rfl, Nat.le_of_ble_eq_true rfl⟩) hK hXS hNC hP hD hS hA hl.1 [0, 1, 2, 3, 4, 5, 6, 7, 8, 9, 10, 11, 12, 13, 14, 15, 16] (by decide) rfl rfl rfl rfl rfl (Nat.le_of_ble_eq_true rfl) dL_areCandidatesSo_9 ⟨Nat.le_of_ble_eq_true rfl, Nat.le_of_ble_eq_true rfl⟩ (fun H locs hP hD hS => ?_)
  refine lv_istore_n (lv' := [(3, .int x9.1), (2, .int x2), (0, .ref (ad 16)), (1, .int p1)]) hx hb dL_areCandidatesSo_12 rfl hl (by decide) rfl (fun ls hl => ?_)
  refine lv_iload_n hx hb dL_areCandidatesSo_13 rfl (lv_at hl 1 rfl) ?_
  refine lv_if_ge (tgt := 38) hx hb dL_areCandidatesSo_14 (by decide) (fun c_14 => ?_) (fun c_14 => ?_)
  · have hf := ite_t c_14 hf
    refine lv_iload_n hx hb dL_areCandidatesSo_38 rfl (lv_at hl 0 rfl) ?_
    refine lv_iload_n hx hb dL_areCandidatesSo_39 rfl (lv_at hl 1 rfl) ?_
    obtain ⟨k52, hk52, hf⟩ := jn_some hf
    have w52 : ∀ (t0_52 : Int32), k52 t0_52 = some r → ∀ (H : Heap) (locs : List Loc) (ls : Array Slot), va_P D vwCl (wG cI ad size rc g fs st ln su rr cr bc bl td fi fa x9.2.1 x9.2.2.1 x9.2.2.2.1 x9.2.2.2.2) H → va_D A (wG cI ad size rc g fs st ln su rr cr bc bl td fi fa x9.2.1 x9.2.2.1 x9.2.2.2.1 x9.2.2.2.2) → va_S A s.heap H locs → lv_has ls 10 [(0, .ref (ad 16)), (1, .int p1), (3, .int x9.1)] → W p l e rm_L_areCandidatesSo s m args below meth c H locs 3 18 Q (F0 m 52 ls [.int t0_52, .int x9.1]) := by
      intro t0_52 hf H locs ls hP hD hS hl
      rw [hk52] at hf
      try dsimp only at hf
      refine lv_icmp_eq (tgt := 57) hx hb dL_areCandidatesSo_52 (by decide) (fun c_52 => ?_) (fun c_52 => ?_)
      · have hf := ite_t c_52 hf
        refine lv_aload_n hx hb dL_areCandidatesSo_57 rfl (lv_at hl 0 rfl) ?_
        obtain ⟨x58, hy58, hf⟩ := Option.bind_eq_some_iff.mp hf
        refine clV_i (As := []) (rest := []) (wG cI ad size rc g fs st ln su rr cr bc bl td fi fa x58.2.1 x58.2.2.1 x58.2.2.2.1 x58.2.2.2.2) ⟨hx, hb, hml, hown, hts⟩ (K_X3_level l D cI cZ ad H.size N size rc g fs st ln su rr cr bc bl td fi fa x9.2.1 x9.2.2.1 x9.2.2.2.1 x9.2.2.2.2 _ hy58) (cwV 0 hts gL_areCandidatesSo_X3_level rfl rfl rfl (by decide +kernel) ⟨Nat.le_of_ble_eq_true rfl, Nat.le_of_ble_eq_true rfl⟩) hK hP hD hS hA hl.1 [0, 1, 2, 3, 4, 5, 6, 7, 8, 9, 10, 11, 12, 13, 14, 15, 16] (by decide) rfl rfl rfl 3 16 rfl rfl rfl rfl rfl (Nat.le_of_ble_eq_true rfl) dL_areCandidatesSo_58 ⟨Nat.le_of_ble_eq_true rfl, Nat.le_of_ble_eq_true rfl⟩ (fun H locs hP hD hS => ?_)
        refine lv_istore (lv' := [(4, .int x58.1), (0, .ref (ad 16)), (1, .int p1), (3, .int x9.1)]) hx hb dL_areCandidatesSo_61 hl (by decide) rfl (fun ls hl => ?_)
        refine lv_aload_n hx hb dL_areCandidatesSo_63 rfl (lv_at hl 1 rfl) ?_
        obtain ⟨x64, hy64, hf⟩ := Option.bind_eq_some_iff.mp hf
        refine clV_i (As := []) (rest := []) (wG cI ad size rc g fs st ln su rr cr bc bl td fi fa x64.2.1 x64.2.2.1 x64.2.2.2.1 x64.2.2.2.2) ⟨hx, hb, hml, hown, hts⟩ (K_X3_hint l D cI cZ ad H.size N size rc g fs st ln su rr cr bc bl td fi fa x58.2.1 x58.2.2.1 x58.2.2.2.1 x58.2.2.2.2 _ hy64) (cwV 0 hts gL_areCandidatesSo_X3_hint rfl rfl rfl (by decide +kernel) ⟨Nat.le_of_ble_eq_true rfl, Nat.le_of_ble_eq_true rfl⟩) hK hP hD hS hA hl.1 [0, 1, 2, 3, 4, 5, 6, 7, 8, 9, 10, 11, 12, 13, 14, 15, 16] (by decide) rfl rfl rfl 3 16 rfl rfl rfl rfl rfl (Nat.le_of_ble_eq_true rfl) dL_areCandidatesSo_64 ⟨Nat.le_of_ble_eq_true rfl, Nat.le_of_ble_eq_true rfl⟩ (fun H locs hP hD hS => ?_)
        refine lv_istore (lv' := [(5, .int x64.1), (4, .int x58.1), (0, .ref (ad 16)), (1, .int p1), (3, .int x9.1)]) hx hb dL_areCandidatesSo_67 hl (by decide) rfl (fun ls hl => ?_)
        refine lv_aload_n hx hb dL_areCandidatesSo_69 rfl (lv_at hl 2 rfl) ?_
        obtain ⟨x70, hy70, hf⟩ := Option.bind_eq_some_iff.mp hf
        refine clV_i (As := []) (rest := []) (wG cI ad size rc g fs st ln su rr cr bc bl td fi fa x70.2.1 x70.2.2.1 x70.2.2.2.1 x70.2.2.2.2) ⟨hx, hb, hml, hown, hts⟩ (K_X3_hintRules l D cI cZ ad H.size N size rc g fs st ln su rr cr bc bl td fi fa x64.2.1 x64.2.2.1 x64.2.2.2.1 x64.2.2.2.2 _ hy70) (cwV 0 hts gL_areCandidatesSo_X3_hintRules rfl rfl rfl (by decide +kernel) ⟨Nat.le_of_ble_eq_true rfl, Nat.le_of_ble_eq_true rfl⟩) hK hP hD hS hA hl.1 [0, 1, 2, 3, 4, 5, 6, 7, 8, 9, 10, 11, 12, 13, 14, 15, 16] (by decide) rfl rfl rfl 3 16 rfl rfl rfl rfl rfl (Nat.le_of_ble_eq_true rfl) dL_areCandidatesSo_70 ⟨Nat.le_of_ble_eq_true rfl, Nat.le_of_ble_eq_true rfl⟩ (fun H locs hP hD hS => ?_)
        refine lv_istore (lv' := [(6, .int x70.1), (5, .int x64.1), (4, .int x58.1), (0, .ref (ad 16)), (1, .int p1), (3, .int x9.1)]) hx hb dL_areCandidatesSo_73 hl (by decide) rfl (fun ls hl => ?_)
        refine lv_aload_n hx hb dL_areCandidatesSo_75 rfl (lv_at hl 3 rfl) ?_
        refine lv_iload_n hx hb dL_areCandidatesSo_76 rfl (lv_at hl 4 rfl) ?_
        refine lv_iconst (v := 3) hx hb dL_areCandidatesSo_77 (by decide) ?_
        obtain ⟨x78, hy78, hf⟩ := Option.bind_eq_some_iff.mp hf
        refine clSW_i (As := [.ref (ad 16), .int p1, .int 3]) (rest := []) (wG cI ad size rc g fs st ln su rr cr bc bl td fi fa x78.2.1 x78.2.2.1 x78.2.2.2.1 x78.2.2.2.2) ⟨hx, hb, hml, hown, hts⟩ (K_L_candidates l hst D cI cZ ad H.size N size rc g fs st ln su rr cr bc bl td fi fa x70.2.1 x70.2.2.1 x70.2.2.2.1 x70.2.2.2.2 p1 3 _ hy78) (vx_cwSW 3 hts gL_areCandidatesSo_L_candidates rfl rfl rfl (by decide +kernel) ⟨Nat.le_of_ble_eq_true rfl, Nat.le_of_ble_eq_true rfl⟩) hK hXS hNC hP hD hS hA hl.1 [0, 1, 2, 3, 4, 5, 6, 7, 8, 9, 10, 11, 12, 13, 14, 15, 16] (by decide) rfl rfl rfl rfl rfl (Nat.le_of_ble_eq_true rfl) dL_areCandidatesSo_78 ⟨Nat.le_of_ble_eq_true rfl, Nat.le_of_ble_eq_true rfl⟩ (fun H locs hP hD hS => ?_)
        refine lv_istore (lv' := [(7, .int x78.1), (6, .int x70.1), (5, .int x64.1), (4, .int x58.1), (0, .ref (ad 16)), (1, .int p1), (3, .int x9.1)]) hx hb dL_areCandidatesSo_81 hl (by decide) rfl (fun ls hl => ?_)
        refine lv_aload_n hx hb dL_areCandidatesSo_83 rfl (lv_at hl 4 rfl) ?_
        refine lv_iload_n hx hb dL_areCandidatesSo_84 rfl (lv_at hl 5 rfl) ?_
        refine lv_iconst (v := 1) hx hb dL_areCandidatesSo_85 (by decide) ?_
        obtain ⟨x86, hy86, hf⟩ := Option.bind_eq_some_iff.mp hf
        refine clSW_i (As := [.ref (ad 16), .int p1, .int 1]) (rest := []) (wG cI ad size rc g fs st ln su rr cr bc bl td fi fa x86.2.1 x86.2.2.1 x86.2.2.2.1 x86.2.2.2.2) ⟨hx, hb, hml, hown, hts⟩ (K_L_candidates l hst D cI cZ ad H.size N size rc g fs st ln su rr cr bc bl td fi fa x78.2.1 x78.2.2.1 x78.2.2.2.1 x78.2.2.2.2 p1 1 _ hy86) (vx_cwSW 3 hts gL_areCandidatesSo_L_candidates rfl rfl rfl (by decide +kernel) ⟨Nat.le_of_ble_eq_true rfl, Nat.le_of_ble_eq_true rfl⟩) hK hXS hNC hP hD hS hA hl.1 [0, 1, 2, 3, 4, 5, 6, 7, 8, 9, 10, 11, 12, 13, 14, 15, 16] (by decide) rfl rfl rfl rfl rfl (Nat.le_of_ble_eq_true rfl) dL_areCandidatesSo_86 ⟨Nat.le_of_ble_eq_true rfl, Nat.le_of_ble_eq_true rfl⟩ (fun H locs hP hD hS => ?_)
        refine lv_aload_n hx hb dL_areCandidatesSo_89 rfl (lv_at hl 4 rfl) ?_
        refine lv_iload_n hx hb dL_areCandidatesSo_90 rfl (lv_at hl 5 rfl) ?_
        refine lv_iconst (v := 1) hx hb dL_areCandidatesSo_91 (by decide) ?_
        obtain ⟨x92, hy92, hf⟩ := Option.bind_eq_some_iff.mp hf
        refine clSW_i (As := [.ref (ad 16), .int p1, .int 1]) (rest := [.int x86.1]) (wG cI ad size rc g fs st ln su rr cr bc bl td fi fa x92.2.1 x92.2.2.1 x92.2.2.2.1 x92.2.2.2.2) ⟨hx, hb, hml, hown, hts⟩ (K_L_candidates l hst D cI cZ ad H.size N size rc g fs st ln su rr cr bc bl td fi fa x86.2.1 x86.2.2.1 x86.2.2.2.1 x86.2.2.2.2 p1 1 _ hy92) (vx_cwSW 3 hts gL_areCandidatesSo_L_candidates rfl rfl rfl (by decide +kernel) ⟨Nat.le_of_ble_eq_true rfl, Nat.le_of_ble_eq_true rfl⟩) hK hXS hNC hP hD hS hA hl.1 [0, 1, 2, 3, 4, 5, 6, 7, 8, 9, 10, 11, 12, 13, 14, 15, 16] (by decide) rfl rfl rfl rfl rfl (Nat.le_of_ble_eq_true rfl) dL_areCandidatesSo_92 ⟨Nat.le_of_ble_eq_true rfl, Nat.le_of_ble_eq_true rfl⟩ (fun H locs hP hD hS => ?_)
        refine lv_iload_n hx hb dL_areCandidatesSo_95 rfl (lv_at hl 6 rfl) ?_
        refine lv_iand hx hb dL_areCandidatesSo_96 ?_
        obtain ⟨k171, hk171, hf⟩ := jn_some hf
        have w171 : ∀ (t0_171 : Int32), k171 t0_171 = some r → ∀ (H : Heap) (locs : List Loc) (ls : Array Slot), va_P D vwCl (wG cI ad size rc g fs st ln su rr cr bc bl td fi fa x92.2.1 x92.2.2.1 x92.2.2.2.1 x92.2.2.2.2) H → va_D A (wG cI ad size rc g fs st ln su rr cr bc bl td fi fa x92.2.1 x92.2.2.1 x92.2.2.2.1 x92.2.2.2.2) → va_S A s.heap H locs → lv_has ls 10 [(0, .ref (ad 16)), (4, .int x58.1), (5, .int x64.1), (6, .int x70.1)] → W p l e rm_L_areCandidatesSo s m args below meth c H locs 9 54 Q (F0 m 171 ls [.int t0_171]) := by
          intro t0_171 hf H locs ls hP hD hS hl
          rw [hk171] at hf
          try dsimp only at hf
          refine lv_istore (lv' := [(8, .int t0_171), (0, .ref (ad 16)), (4, .int x58.1), (5, .int x64.1), (6, .int x70.1)]) hx hb dL_areCandidatesSo_171 hl (by decide) rfl (fun ls hl => ?_)
          refine lv_iload hx hb dL_areCandidatesSo_173 (lv_at hl 0 rfl) ?_
          obtain ⟨k183, hk183, hf⟩ := jn_some hf
          have w183 : ∀ (_ : Unit), k183 () = some r → ∀ (H : Heap) (locs : List Loc) (ls : Array Slot), va_P D vwCl (wG cI ad size rc g fs st ln su rr cr bc bl td fi fa x92.2.1 x92.2.2.1 x92.2.2.2.1 x92.2.2.2.2) H → va_D A (wG cI ad size rc g fs st ln su rr cr bc bl td fi fa x92.2.1 x92.2.2.1 x92.2.2.2.1 x92.2.2.2.2) → va_S A s.heap H locs → lv_has ls 10 [(4, .int x58.1), (5, .int x64.1), (8, .int t0_171)] → W p l e rm_L_areCandidatesSo s m args below meth c H locs 9 54 Q (F0 m 183 ls []) := by
            intro _ hf H locs ls hP hD hS hl
            rw [hk183] at hf
            try dsimp only at hf
            refine lv_iload hx hb dL_areCandidatesSo_183 (lv_at hl 2 rfl) ?_
            obtain ⟨k203, hk203, hf⟩ := jn_some hf
            have w203 : ∀ (_ : Unit), k203 () = some r → ∀ (H : Heap) (locs : List Loc) (ls : Array Slot), va_P D vwCl (wG cI ad size rc g fs st ln su rr cr bc bl td fi fa x92.2.1 x92.2.2.1 x92.2.2.2.1 x92.2.2.2.2) H → va_D A (wG cI ad size rc g fs st ln su rr cr bc bl td fi fa x92.2.1 x92.2.2.1 x92.2.2.2.1 x92.2.2.2.2) → va_S A s.heap H locs → lv_has ls 10 [] → W p l e rm_L_areCandidatesSo s m args below meth c H locs 9 54 Q (F0 m 203 ls []) := by
              intro _ hf H locs ls hP hD hS hl
              rw [hk203] at hf
              try dsimp only at hf
              refine lv_iconst (v := 0) hx hb dL_areCandidatesSo_203 (by decide) ?_
              cases hf
              exact hR _ _ _ _ _ _ _ _ (by decide) rfl rfl hP hD hS (Nat.le_of_ble_eq_true rfl) (Nat.le_of_ble_eq_true rfl) dL_areCandidatesSo_204
            refine lv_if_eq (tgt := 203) hx hb dL_areCandidatesSo_185 (by decide) (fun c_185 => ?_) (fun c_185 => ?_)
            · have hf := ite_t c_185 hf
              exact w203 () hf _ _ _ hP hD hS (lv_sub hl [] rfl)
            · have hf := ite_f c_185 hf
              refine lv_iload hx hb dL_areCandidatesSo_188 (lv_at hl 0 rfl) ?_
              refine lv_iconst (v := 1) hx hb dL_areCandidatesSo_190 (by decide) ?_
              obtain ⟨k199, hk199, hf⟩ := jn_some hf
              have w199 : ∀ (_ : Unit), k199 () = some r → ∀ (H : Heap) (locs : List Loc) (ls : Array Slot), va_P D vwCl (wG cI ad size rc g fs st ln su rr cr bc bl td fi fa x92.2.1 x92.2.2.1 x92.2.2.2.1 x92.2.2.2.2) H → va_D A (wG cI ad size rc g fs st ln su rr cr bc bl td fi fa x92.2.1 x92.2.2.1 x92.2.2.2.1 x92.2.2.2.2) → va_S A s.heap H locs → lv_has ls 10 [] → W p l e rm_L_areCandidatesSo s m args below meth c H locs 9 54 Q (F0 m 199 ls []) := by
                intro _ hf H locs ls hP hD hS hl
                rw [hk199] at hf
                try dsimp only at hf
                refine lv_iconst (v := 1) hx hb dL_areCandidatesSo_199 (by decide) ?_
                refine lv_goto (tgt := 204) hx hb dL_areCandidatesSo_200 (by decide) ?_
                cases hf
                exact hR _ _ _ _ _ _ _ _ (by decide) rfl rfl hP hD hS (Nat.le_of_ble_eq_true rfl) (Nat.le_of_ble_eq_true rfl) dL_areCandidatesSo_204
              refine lv_icmp_lt (tgt := 199) hx hb dL_areCandidatesSo_191 (by decide) (fun c_191 => ?_) (fun c_191 => ?_)
              · have hf := ite_t c_191 hf
                exact w199 () hf _ _ _ hP hD hS (lv_sub hl [] rfl)
              · have hf := ite_f c_191 hf
                refine lv_iload hx hb dL_areCandidatesSo_194 (lv_at hl 1 rfl) ?_
                refine lv_if_lt (tgt := 203) hx hb dL_areCandidatesSo_196 (by decide) (fun c_196 => ?_) (fun c_196 => ?_)
                · have hf := ite_t c_196 hf
                  exact w203 () hf _ _ _ hP hD hS (lv_sub hl [] rfl)
                · have hf := ite_f c_196 hf
                  exact w199 () hf _ _ _ hP hD hS (lv_sub hl [] rfl)
          refine lv_if_eq (tgt := 183) hx hb dL_areCandidatesSo_175 (by decide) (fun c_175 => ?_) (fun c_175 => ?_)
          · have hf := ite_t c_175 hf
            exact w183 () hf _ _ _ hP hD hS (lv_sub hl [2, 3, 0] rfl)
          · have hf := ite_f c_175 hf
            refine lv_iload hx hb dL_areCandidatesSo_178 (lv_at hl 3 rfl) ?_
            refine lv_if_ge (tgt := 205) hx hb dL_areCandidatesSo_180 (by decide) (fun c_180 => ?_) (fun c_180 => ?_)
            · have hf := ite_t c_180 hf
              refine lv_aload_n hx hb dL_areCandidatesSo_205 rfl (lv_at hl 1 rfl) ?_
              refine lv_iload hx hb dL_areCandidatesSo_206 (lv_at hl 3 rfl) ?_
              refine lv_iload hx hb dL_areCandidatesSo_208 (lv_at hl 4 rfl) ?_
              obtain ⟨x210, hy210, hf⟩ := Option.bind_eq_some_iff.mp hf
              refine clSW_i (As := [.ref (ad 16), .int x64.1, .int x70.1]) (rest := []) (wG cI ad size rc g fs st ln su rr cr bc bl td fi fa x210.2.1 x210.2.2.1 x210.2.2.2.1 x210.2.2.2.2) ⟨hx, hb, hml, hown, hts⟩ (K_L_candidates l hst D cI cZ ad H.size N size rc g fs st ln su rr cr bc bl td fi fa x92.2.1 x92.2.2.1 x92.2.2.2.1 x92.2.2.2.2 x64.1 x70.1 _ hy210) (vx_cwSW 3 hts gL_areCandidatesSo_L_candidates rfl rfl rfl (by decide +kernel) ⟨Nat.le_of_ble_eq_true rfl, Nat.le_of_ble_eq_true rfl⟩) hK hXS hNC hP hD hS hA hl.1 [0, 1, 2, 3, 4, 5, 6, 7, 8, 9, 10, 11, 12, 13, 14, 15, 16] (by decide) rfl rfl rfl rfl rfl (Nat.le_of_ble_eq_true rfl) dL_areCandidatesSo_210 ⟨Nat.le_of_ble_eq_true rfl, Nat.le_of_ble_eq_true rfl⟩ (fun H locs hP hD hS => ?_)
              refine lv_istore (lv' := [(9, .int x210.1), (8, .int t0_171), (0, .ref (ad 16)), (4, .int x58.1), (5, .int x64.1), (6, .int x70.1)]) hx hb dL_areCandidatesSo_213 hl (by decide) rfl (fun ls hl => ?_)
              refine lv_aload_n hx hb dL_areCandidatesSo_215 rfl (lv_at hl 2 rfl) ?_
              refine lv_iload hx hb dL_areCandidatesSo_216 (lv_at hl 4 rfl) ?_
              obtain ⟨x218, hy218, hf⟩ := Option.bind_eq_some_iff.mp hf
              refine clSW_i (As := [.ref (ad 16), .int x64.1]) (rest := []) (wG cI ad size rc g fs st ln su rr cr bc bl td fi fa x210.2.1 x210.2.2.1 x210.2.2.2.1 x210.2.2.2.2) ⟨hx, hb, hml, hown, hts⟩ (K_L_digit l hst D cI cZ ad H.size size rc g fs st ln su rr cr bc bl td fi fa x210.2.1 x210.2.2.1 x210.2.2.2.1 x210.2.2.2.2 x64.1 _ hy218) (vx_cwSW 2 hts gL_areCandidatesSo_L_digit rfl rfl rfl (by decide +kernel) ⟨Nat.le_of_ble_eq_true rfl, Nat.le_of_ble_eq_true rfl⟩) hK hXS hNC hP hD hS hA hl.1 [0, 1, 2, 3, 4, 5, 6, 7, 8, 9, 10, 11, 12, 13, 14, 15, 16] (by decide) rfl rfl rfl rfl rfl (Nat.le_of_ble_eq_true rfl) dL_areCandidatesSo_218 ⟨Nat.le_of_ble_eq_true rfl, Nat.le_of_ble_eq_true rfl⟩ (fun H locs hP hD hS => ?_)
              obtain ⟨k255, hk255, hf⟩ := jn_some hf
              have w255 : ∀ (_ : Unit), k255 () = some r → ∀ (H : Heap) (locs : List Loc) (ls : Array Slot), va_P D vwCl (wG cI ad size rc g fs st ln su rr cr bc bl td fi fa x210.2.1 x210.2.2.1 x210.2.2.2.1 x210.2.2.2.2) H → va_D A (wG cI ad size rc g fs st ln su rr cr bc bl td fi fa x210.2.1 x210.2.2.1 x210.2.2.2.1 x210.2.2.2.2) → va_S A s.heap H locs → lv_has ls 10 [] → W p l e rm_L_areCandidatesSo s m args below meth c H locs 12 72 Q (F0 m 255 ls []) := by
                intro _ hf H locs ls hP hD hS hl
                rw [hk255] at hf
                try dsimp only at hf
                refine lv_iconst (v := 0) hx hb dL_areCandidatesSo_255 (by decide) ?_
                cases hf
                exact hR _ _ _ _ _ _ _ _ (by decide) rfl rfl hP hD hS (Nat.le_of_ble_eq_true rfl) (Nat.le_of_ble_eq_true rfl) dL_areCandidatesSo_256
              refine lv_if_ne (tgt := 255) hx hb dL_areCandidatesSo_221 (by decide) (fun c_221 => ?_) (fun c_221 => ?_)
              · have hf := ite_f c_221 hf
                exact w255 () hf _ _ _ hP hD hS (lv_sub hl [] rfl)
              · have hf := ite_t c_221 hf
                refine lv_iload hx hb dL_areCandidatesSo_224 (lv_at hl 0 rfl) ?_
                refine lv_if_eq (tgt := 255) hx hb dL_areCandidatesSo_226 (by decide) (fun c_226 => ?_) (fun c_226 => ?_)
                · have hf := ite_t c_226 hf
                  exact w255 () hf _ _ _ hP hD hS (lv_sub hl [] rfl)
                · have hf := ite_f c_226 hf
                  refine lv_iload hx hb dL_areCandidatesSo_229 (lv_at hl 0 rfl) ?_
                  refine lv_iload hx hb dL_areCandidatesSo_231 (lv_at hl 0 rfl) ?_
                  refine lv_iconst (v := 1) hx hb dL_areCandidatesSo_233 (by decide) ?_
                  refine lv_isub hx hb dL_areCandidatesSo_234 ?_
                  refine lv_iand hx hb dL_areCandidatesSo_235 ?_
                  refine lv_if_ne (tgt := 255) hx hb dL_areCandidatesSo_236 (by decide) (fun c_236 => ?_) (fun c_236 => ?_)
                  · have hf := ite_f c_236 hf
                    exact w255 () hf _ _ _ hP hD hS (lv_sub hl [] rfl)
                  · have hf := ite_t c_236 hf
                    refine lv_iload hx hb dL_areCandidatesSo_239 (lv_at hl 5 rfl) ?_
                    refine lv_iconst (v := 1) hx hb dL_areCandidatesSo_241 (by decide) ?_
                    refine lv_icmp_lt (tgt := 255) hx hb dL_areCandidatesSo_242 (by decide) (fun c_242 => ?_) (fun c_242 => ?_)
                    · have hf := ite_t c_242 hf
                      exact w255 () hf _ _ _ hP hD hS (lv_sub hl [] rfl)
                    · have hf := ite_f c_242 hf
                      refine lv_iload hx hb dL_areCandidatesSo_245 (lv_at hl 5 rfl) ?_
                      refine lv_iconst (v := 3) hx hb dL_areCandidatesSo_247 (by decide) ?_
                      refine lv_icmp_gt (tgt := 255) hx hb dL_areCandidatesSo_248 (by decide) (fun c_248 => ?_) (fun c_248 => ?_)
                      · have hf := ite_t c_248 hf
                        exact w255 () hf _ _ _ hP hD hS (lv_sub hl [] rfl)
                      · have hf := ite_f c_248 hf
                        refine lv_iconst (v := 1) hx hb dL_areCandidatesSo_251 (by decide) ?_
                        refine lv_goto (tgt := 256) hx hb dL_areCandidatesSo_252 (by decide) ?_
                        cases hf
                        exact hR _ _ _ _ _ _ _ _ (by decide) rfl rfl hP hD hS (Nat.le_of_ble_eq_true rfl) (Nat.le_of_ble_eq_true rfl) dL_areCandidatesSo_256
            · have hf := ite_f c_180 hf
              exact w183 () hf _ _ _ hP hD hS (lv_sub hl [2, 3, 0] rfl)
        obtain ⟨k170, hk170, hf⟩ := jn_some hf
        have w170 : ∀ (_ : Unit), k170 () = some r → ∀ (H : Heap) (locs : List Loc) (ls : Array Slot), va_P D vwCl (wG cI ad size rc g fs st ln su rr cr bc bl td fi fa x92.2.1 x92.2.2.1 x92.2.2.2.1 x92.2.2.2.2) H → va_D A (wG cI ad size rc g fs st ln su rr cr bc bl td fi fa x92.2.1 x92.2.2.1 x92.2.2.2.1 x92.2.2.2.2) → va_S A s.heap H locs → lv_has ls 10 [(0, .ref (ad 16)), (4, .int x58.1), (5, .int x64.1), (6, .int x70.1)] → W p l e rm_L_areCandidatesSo s m args below meth c H locs 9 54 Q (F0 m 170 ls []) := by
          intro _ hf H locs ls hP hD hS hl
          rw [hk170] at hf
          try dsimp only at hf
          refine lv_iconst (v := 0) hx hb dL_areCandidatesSo_170 (by decide) ?_
          exact w171 0 hf _ _ _ hP hD hS (lv_sub hl [0, 1, 2, 3] rfl)
        refine lv_icmp_ne (tgt := 170) hx hb dL_areCandidatesSo_97 (by decide) (fun c_97 => ?_) (fun c_97 => ?_)
        · have hf := ite_f c_97 hf
          exact w170 () hf _ _ _ hP hD hS (lv_sub hl [4, 3, 2, 1] rfl)
        · have hf := ite_t c_97 hf
          refine lv_iload hx hb dL_areCandidatesSo_100 (lv_at hl 0 rfl) ?_
          refine lv_iload_n hx hb dL_areCandidatesSo_102 rfl (lv_at hl 6 rfl) ?_
          refine lv_iconst (v := (-1)) hx hb dL_areCandidatesSo_103 (by decide) ?_
          refine lv_ixor hx hb dL_areCandidatesSo_104 ?_
          refine lv_iand hx hb dL_areCandidatesSo_105 ?_
          refine lv_if_ne (tgt := 170) hx hb dL_areCandidatesSo_106 (by decide) (fun c_106 => ?_) (fun c_106 => ?_)
          · have hf := ite_f c_106 hf
            exact w170 () hf _ _ _ hP hD hS (lv_sub hl [4, 3, 2, 1] rfl)
          · have hf := ite_t c_106 hf
            refine lv_iload hx hb dL_areCandidatesSo_109 (lv_at hl 3 rfl) ?_
            refine lv_iconst (v := (-1)) hx hb dL_areCandidatesSo_111 (by decide) ?_
            refine lv_icmp_lt (tgt := 170) hx hb dL_areCandidatesSo_112 (by decide) (fun c_112 => ?_) (fun c_112 => ?_)
            · have hf := ite_t c_112 hf
              exact w170 () hf _ _ _ hP hD hS (lv_sub hl [4, 3, 2, 1] rfl)
            · have hf := ite_f c_112 hf
              refine lv_iload hx hb dL_areCandidatesSo_115 (lv_at hl 3 rfl) ?_
              refine lv_iconst (v := 3) hx hb dL_areCandidatesSo_117 (by decide) ?_
              refine lv_icmp_gt (tgt := 170) hx hb dL_areCandidatesSo_118 (by decide) (fun c_118 => ?_) (fun c_118 => ?_)
              · have hf := ite_t c_118 hf
                exact w170 () hf _ _ _ hP hD hS (lv_sub hl [4, 3, 2, 1] rfl)
              · have hf := ite_f c_118 hf
                refine lv_iload hx hb dL_areCandidatesSo_121 (lv_at hl 2 rfl) ?_
                refine lv_iconst (v := (-1)) hx hb dL_areCandidatesSo_123 (by decide) ?_
                obtain ⟨k132, hk132, hf⟩ := jn_some hf
                have w132 : ∀ (t0_132 : Int32), k132 t0_132 = some r → ∀ (H : Heap) (locs : List Loc) (ls : Array Slot), va_P D vwCl (wG cI ad size rc g fs st ln su rr cr bc bl td fi fa x92.2.1 x92.2.2.1 x92.2.2.2.1 x92.2.2.2.2) H → va_D A (wG cI ad size rc g fs st ln su rr cr bc bl td fi fa x92.2.1 x92.2.2.1 x92.2.2.2.1 x92.2.2.2.2) → va_S A s.heap H locs → lv_has ls 10 [(0, .ref (ad 16)), (4, .int x58.1), (5, .int x64.1), (6, .int x70.1), (7, .int x78.1)] → W p l e rm_L_areCandidatesSo s m args below meth c H locs 9 54 Q (F0 m 132 ls [.int t0_132]) := by
                  intro t0_132 hf H locs ls hP hD hS hl
                  rw [hk132] at hf
                  try dsimp only at hf
                  refine lv_iload hx hb dL_areCandidatesSo_132 (lv_at hl 3 rfl) ?_
                  refine lv_iconst (v := (-1)) hx hb dL_areCandidatesSo_134 (by decide) ?_
                  obtain ⟨k143, hk143, hf⟩ := jn_some hf
                  have w143 : ∀ (t0_143 : Int32), k143 t0_143 = some r → ∀ (H : Heap) (locs : List Loc) (ls : Array Slot), va_P D vwCl (wG cI ad size rc g fs st ln su rr cr bc bl td fi fa x92.2.1 x92.2.2.1 x92.2.2.2.1 x92.2.2.2.2) H → va_D A (wG cI ad size rc g fs st ln su rr cr bc bl td fi fa x92.2.1 x92.2.2.1 x92.2.2.2.1 x92.2.2.2.2) → va_S A s.heap H locs → lv_has ls 10 [(0, .ref (ad 16)), (4, .int x58.1), (5, .int x64.1), (6, .int x70.1), (7, .int x78.1)] → W p l e rm_L_areCandidatesSo s m args below meth c H locs 9 54 Q (F0 m 143 ls [.int t0_143, .int t0_132]) := by
                    intro t0_143 hf H locs ls hP hD hS hl
                    rw [hk143] at hf
                    try dsimp only at hf
                    refine lv_icmp_ne (tgt := 170) hx hb dL_areCandidatesSo_143 (by decide) (fun c_143 => ?_) (fun c_143 => ?_)
                    · have hf := ite_f c_143 hf
                      exact w170 () hf _ _ _ hP hD hS (lv_sub hl [0, 1, 2, 3] rfl)
                    · have hf := ite_t c_143 hf
                      refine lv_iload hx hb dL_areCandidatesSo_146 (lv_at hl 1 rfl) ?_
                      obtain ⟨k166, hk166, hf⟩ := jn_some hf
                      have w166 : ∀ (_ : Unit), k166 () = some r → ∀ (H : Heap) (locs : List Loc) (ls : Array Slot), va_P D vwCl (wG cI ad size rc g fs st ln su rr cr bc bl td fi fa x92.2.1 x92.2.2.1 x92.2.2.2.1 x92.2.2.2.2) H → va_D A (wG cI ad size rc g fs st ln su rr cr bc bl td fi fa x92.2.1 x92.2.2.1 x92.2.2.2.1 x92.2.2.2.2) → va_S A s.heap H locs → lv_has ls 10 [(0, .ref (ad 16)), (4, .int x58.1), (5, .int x64.1), (6, .int x70.1)] → W p l e rm_L_areCandidatesSo s m args below meth c H locs 9 54 Q (F0 m 166 ls []) := by
                        intro _ hf H locs ls hP hD hS hl
                        rw [hk166] at hf
                        try dsimp only at hf
                        refine lv_iconst (v := 1) hx hb dL_areCandidatesSo_166 (by decide) ?_
                        refine lv_goto (tgt := 171) hx hb dL_areCandidatesSo_167 (by decide) ?_
                        exact w171 1 hf _ _ _ hP hD hS (lv_sub hl [0, 1, 2, 3] rfl)
                      refine lv_if_lt (tgt := 166) hx hb dL_areCandidatesSo_148 (by decide) (fun c_148 => ?_) (fun c_148 => ?_)
                      · have hf := ite_t c_148 hf
                        exact w166 () hf _ _ _ hP hD hS (lv_sub hl [0, 1, 2, 3] rfl)
                      · have hf := ite_f c_148 hf
                        refine lv_iload hx hb dL_areCandidatesSo_151 (lv_at hl 4 rfl) ?_
                        refine lv_if_eq (tgt := 170) hx hb dL_areCandidatesSo_153 (by decide) (fun c_153 => ?_) (fun c_153 => ?_)
                        · have hf := ite_t c_153 hf
                          exact w170 () hf _ _ _ hP hD hS (lv_sub hl [0, 1, 2, 3] rfl)
                        · have hf := ite_f c_153 hf
                          refine lv_iload hx hb dL_areCandidatesSo_156 (lv_at hl 4 rfl) ?_
                          refine lv_iload hx hb dL_areCandidatesSo_158 (lv_at hl 4 rfl) ?_
                          refine lv_iconst (v := 1) hx hb dL_areCandidatesSo_160 (by decide) ?_
                          refine lv_isub hx hb dL_areCandidatesSo_161 ?_
                          refine lv_iand hx hb dL_areCandidatesSo_162 ?_
                          refine lv_if_ne (tgt := 170) hx hb dL_areCandidatesSo_163 (by decide) (fun c_163 => ?_) (fun c_163 => ?_)
                          · have hf := ite_f c_163 hf
                            exact w170 () hf _ _ _ hP hD hS (lv_sub hl [0, 1, 2, 3] rfl)
                          · have hf := ite_t c_163 hf
                            exact w166 () hf _ _ _ hP hD hS (lv_sub hl [0, 1, 2, 3] rfl)
                  refine lv_icmp_ne (tgt := 142) hx hb dL_areCandidatesSo_135 (by decide) (fun c_135 => ?_) (fun c_135 => ?_)
                  · have hf := ite_f c_135 hf
                    refine lv_iconst (v := 0) hx hb dL_areCandidatesSo_142 (by decide) ?_
                    exact w143 0 hf _ _ _ hP hD hS (lv_sub hl [0, 1, 2, 3, 4] rfl)
                  · have hf := ite_t c_135 hf
                    refine lv_iconst (v := 1) hx hb dL_areCandidatesSo_138 (by decide) ?_
                    refine lv_goto (tgt := 143) hx hb dL_areCandidatesSo_139 (by decide) ?_
                    exact w143 1 hf _ _ _ hP hD hS (lv_sub hl [0, 1, 2, 3, 4] rfl)
                refine lv_icmp_ne (tgt := 131) hx hb dL_areCandidatesSo_124 (by decide) (fun c_124 => ?_) (fun c_124 => ?_)
                · have hf := ite_f c_124 hf
                  refine lv_iconst (v := 0) hx hb dL_areCandidatesSo_131 (by decide) ?_
                  exact w132 0 hf _ _ _ hP hD hS (lv_sub hl [4, 3, 2, 1, 0] rfl)
                · have hf := ite_t c_124 hf
                  refine lv_iconst (v := 1) hx hb dL_areCandidatesSo_127 (by decide) ?_
                  refine lv_goto (tgt := 132) hx hb dL_areCandidatesSo_128 (by decide) ?_
                  exact w132 1 hf _ _ _ hP hD hS (lv_sub hl [4, 3, 2, 1, 0] rfl)
      · have hf := ite_f c_52 hf
        refine lv_iconst (v := 0) hx hb dL_areCandidatesSo_55 (by decide) ?_
        cases hf
        exact hR _ _ _ _ _ _ _ _ (by decide) rfl rfl hP hD hS (Nat.le_of_ble_eq_true rfl) (Nat.le_of_ble_eq_true rfl) dL_areCandidatesSo_56
    refine lv_if_le (tgt := 49) hx hb dL_areCandidatesSo_40 (by decide) (fun c_40 => ?_) (fun c_40 => ?_)
    · have hf := ite_t c_40 hf
      refine lv_sipush (v := 1022) hx hb dL_areCandidatesSo_49 (by decide) ?_
      exact w52 1022 hf _ _ _ hP hD hS (lv_sub hl [2, 3, 0] rfl)
    · have hf := ite_f c_40 hf
      refine lv_iconst (v := 1) hx hb dL_areCandidatesSo_43 (by decide) ?_
      refine lv_iload_n hx hb dL_areCandidatesSo_44 rfl (lv_at hl 1 rfl) ?_
      refine lv_ishl hx hb dL_areCandidatesSo_45 ?_
      refine lv_goto (tgt := 52) hx hb dL_areCandidatesSo_46 (by decide) ?_
      exact w52 (1 <<< (x2 &&& 31)) hf _ _ _ hP hD hS (lv_sub hl [2, 3, 0] rfl)
  · have hf := ite_f c_14 hf
    refine lv_iload_n hx hb dL_areCandidatesSo_17 rfl (lv_at hl 0 rfl) ?_
    refine lv_iload_n hx hb dL_areCandidatesSo_18 rfl (lv_at hl 1 rfl) ?_
    refine lv_iconst (v := (-1)) hx hb dL_areCandidatesSo_19 (by decide) ?_
    obtain ⟨k29, hk29, hf⟩ := jn_some hf
    have w29 : ∀ (t0_29 : Int32), k29 t0_29 = some r → ∀ (H : Heap) (locs : List Loc) (ls : Array Slot), va_P D vwCl (wG cI ad size rc g fs st ln su rr cr bc bl td fi fa x9.2.1 x9.2.2.1 x9.2.2.2.1 x9.2.2.2.2) H → va_D A (wG cI ad size rc g fs st ln su rr cr bc bl td fi fa x9.2.1 x9.2.2.1 x9.2.2.2.1 x9.2.2.2.2) → va_S A s.heap H locs → lv_has ls 10 [] → W p l e rm_L_areCandidatesSo s m args below meth c H locs 3 18 Q (F0 m 29 ls [.int t0_29, .int x9.1]) := by
      intro t0_29 hf H locs ls hP hD hS hl
      rw [hk29] at hf
      try dsimp only at hf
      refine lv_icmp_ne (tgt := 36) hx hb dL_areCandidatesSo_29 (by decide) (fun c_29 => ?_) (fun c_29 => ?_)
      · have hf := ite_f c_29 hf
        refine lv_iconst (v := 0) hx hb dL_areCandidatesSo_36 (by decide) ?_
        cases hf
        exact hR _ _ _ _ _ _ _ _ (by decide) rfl rfl hP hD hS (Nat.le_of_ble_eq_true rfl) (Nat.le_of_ble_eq_true rfl) dL_areCandidatesSo_37
      · have hf := ite_t c_29 hf
        refine lv_iconst (v := 1) hx hb dL_areCandidatesSo_32 (by decide) ?_
        refine lv_goto (tgt := 37) hx hb dL_areCandidatesSo_33 (by decide) ?_
        cases hf
        exact hR _ _ _ _ _ _ _ _ (by decide) rfl rfl hP hD hS (Nat.le_of_ble_eq_true rfl) (Nat.le_of_ble_eq_true rfl) dL_areCandidatesSo_37
    refine lv_icmp_ne (tgt := 27) hx hb dL_areCandidatesSo_20 (by decide) (fun c_20 => ?_) (fun c_20 => ?_)
    · have hf := ite_f c_20 hf
      refine lv_bipush (v := (-2)) hx hb dL_areCandidatesSo_27 (by decide) ?_
      exact w29 (-2) hf _ _ _ hP hD hS (lv_sub hl [] rfl)
    · have hf := ite_t c_20 hf
      refine lv_iconst (v := 0) hx hb dL_areCandidatesSo_23 (by decide) ?_
      refine lv_goto (tgt := 29) hx hb dL_areCandidatesSo_24 (by decide) ?_
      exact w29 0 hf _ _ _ hP hD hS (lv_sub hl [] rfl)
