def f_L_areAlike_L95 (size : Int32) (g : Nat → Int32) (size2 : Int32) (g2 : Nat → Int32) : Nat → Int32 → Int32 → Option (Int32)
  | 0, _, _ => none
  | n95 + 1, v2_95, v3_95 =>
    (if 9 ≤ v3_95 then gd (v2_95 = 0 ∨ v2_95 = 1) <| some v2_95 else (if v2_95 = 0 then gd (v2_95 = 0 ∨ v2_95 = 1) <| some v2_95 else (f_L_digit size g (((v3_95 / 3) * 4) + (v3_95 - v3_95 / 3 * 3))).bind fun x115 => (f_L_digit size2 g2 (((v3_95 / 3) * 4) + (v3_95 - v3_95 / 3 * 3))).bind fun x128 => jn (fun (t0_139 : Int32) => f_L_areAlike_L95 size g size2 g2 n95 t0_139 (v3_95 + 1)) fun k139 => (if x115 = x128 then k139 1 else k139 0)))
def f_L_areAlike_L30 (rc : Int32) (fs : Nat → Int32) (ln : Nat → Int32) (su : Nat → Int32) (rc2 : Int32) (fs2 : Nat → Int32) (ln2 : Nat → Int32) (su2 : Nat → Int32) (k93 : Int32 → Option (Int32)) : Nat → Int32 → Int32 → Option (Int32)
  | 0, _, _ => none
  | n30 + 1, v2_30, v3_30 =>
    (if (f_X3_runs rc) ≤ v3_30 then k93 v2_30 else (if v2_30 = 0 then k93 v2_30 else (f_X3_sumOf rc su v3_30).bind fun x44 => sm x44 (fun y44 => (f_X3_sumOf rc2 su2 v3_30).bind fun x49 => sm x49 (fun y49 => jn (fun (t0_86 : Int32) => f_L_areAlike_L30 rc fs ln su rc2 fs2 ln2 su2 k93 n30 t0_86 (v3_30 + 1)) fun k86 => jn (fun (_ : Unit) => k86 0) fun k85 => (if y44 = y49 then (f_X3_firstOf rc fs v3_30).bind fun x57 => sm x57 (fun y57 => (f_X3_firstOf rc2 fs2 v3_30).bind fun x62 => sm x62 (fun y62 => (if y57 = y62 then (f_X3_lengthOf rc ln v3_30).bind fun x70 => sm x70 (fun y70 => (f_X3_lengthOf rc2 ln2 v3_30).bind fun x75 => sm x75 (fun y75 => (if y70 = y75 then k86 1 else k85 ())) (fun z75 => (none))) (fun z70 => (none)) else k85 ())) (fun z62 => (none))) (fun z57 => (none)) else k85 ())) (fun z49 => (none))) (fun z44 => (none))))
def f_L_areAlike (N : Nat) (size : Int32) (rc : Int32) (g : Nat → Int32) (fs : Nat → Int32) (ln : Nat → Int32) (su : Nat → Int32) (size2 : Int32) (rc2 : Int32) (g2 : Nat → Int32) (fs2 : Nat → Int32) (ln2 : Nat → Int32) (su2 : Nat → Int32) : Option (Int32) :=
  (f_X3_open N size g).bind fun x1 => (f_X3_open N size2 g2).bind fun x5 => jn (fun (t0_27 : Int32) => jn (fun (v2_93 : Int32) => f_L_areAlike_L95 size g size2 g2 11 v2_93 0) fun k93 => f_L_areAlike_L30 rc fs ln su rc2 fs2 ln2 su2 k93 10 t0_27 0) fun k27 => jn (fun (_ : Unit) => k27 0) fun k26 => (if x1 = x5 then (if (f_X3_runs rc) = (f_X3_runs rc2) then k27 1 else k26 ()) else k26 ())
def rm_L_areAlike : Room := { frames := 11, cells := 82, slots := 492, locals := 264 }
set_option maxRecDepth 100000 in
set_option maxHeartbeats 16000000 in
theorem K_L_areAlike (l : Launch) (hst : l.stackTraces = false) (D : va_G) (cI cZ : ClassId) (ad bd : Nat → Nat) (sz : Nat) (N : Nat) (size rc : Int32) (g fs st ln su rr cr : Nat → Int32) (bc : Int32) (bl td fi fa : Nat → Int32) (tk gr : Int32) (se sr : Nat → Int32) (size2 rc2 : Int32) (g2 fs2 st2 ln2 su2 rr2 cr2 : Nat → Int32) (bc2 : Int32) (bl2 td2 fi2 fa2 : Nat → Int32) (tk2 gr2 : Int32) (se2 sr2 : Nat → Int32) (r : (Int32)) (hf : f_L_areAlike N size rc g fs ln su size2 rc2 g2 fs2 ln2 su2 = some r) : Met l yL_areAlike wsL_areAlike rm_L_areAlike (PL D cI cZ sz [.ref (ad 16), .ref (bd 16)] (wGG cI ad bd size rc g fs st ln su rr cr bc bl td fi fa tk gr se sr size2 rc2 g2 fs2 st2 ln2 su2 rr2 cr2 bc2 bl2 td2 fi2 fa2 tk2 gr2 se2 sr2)) (QI D cI cZ sz (wGG cI ad bd size rc g fs st ln su rr cr bc bl td fi fa tk gr se sr size2 rc2 g2 fs2 st2 ln2 su2 rr2 cr2 bc2 bl2 td2 fi2 fa2 tk2 gr2 se2 sr2) r (wGG cI ad bd size rc g fs st ln su rr cr bc bl td fi fa tk gr se sr size2 rc2 g2 fs2 st2 ln2 su2 rr2 cr2 bc2 bl2 td2 fi2 fa2 tk2 gr2 se2 sr2)) 82 492 (va_A (wGG cI ad bd size rc g fs st ln su rr cr bc bl td fi fa tk gr se sr size2 rc2 g2 fs2 st2 ln2 su2 rr2 cr2 bc2 bl2 td2 fi2 fa2 tk2 gr2 se2 sr2) sz) := by
  refine mkp_z (cc := cL_areAlike) (maxL := 4) (lv0 := [(0, .ref (ad 16)), (1, .ref (bd 16))]) rfl (by decide) rfl (Nat.le_of_ble_eq_true rfl) rfl ?_
  intro p e s m args below meth c ls A Q H hx hb hml hown hts hK hXS hNC hP hD hA hS hl hR
  rw [f_L_areAlike] at hf
  refine lv_aload_n hx hb dL_areAlike_0 rfl (lv_at hl 0 rfl) ?_
  obtain ⟨x1, hy1, hf⟩ := Option.bind_eq_some_iff.mp hf
  refine clV_i (As := []) (rest := []) (wGG cI ad bd size rc g fs st ln su rr cr bc bl td fi fa tk gr se sr size2 rc2 g2 fs2 st2 ln2 su2 rr2 cr2 bc2 bl2 td2 fi2 fa2 tk2 gr2 se2 sr2) ⟨hx, hb, hml, hown, hts⟩ (K_X3_open l D cI cZ ad H.size N size rc g fs st ln su rr cr bc bl td fi fa tk gr se sr _ hy1) (cwV 0 hts gL_areAlike_X3_open rfl rfl rfl (by decide +kernel) ⟨Nat.le_of_ble_eq_true rfl, Nat.le_of_ble_eq_true rfl⟩) hK hP hD hS hA hl.1 [0, 1, 2, 3, 4, 5, 6, 7, 8, 9, 10, 11, 12, 13, 14, 15, 16] (by decide) rfl rfl rfl 3 16 rfl rfl rfl rfl rfl (Nat.le_of_ble_eq_true rfl) dL_areAlike_1 ⟨Nat.le_of_ble_eq_true rfl, Nat.le_of_ble_eq_true rfl⟩ (fun H locs hP hD hS => ?_)
  refine lv_aload_n hx hb dL_areAlike_4 rfl (lv_at hl 1 rfl) ?_
  obtain ⟨x5, hy5, hf⟩ := Option.bind_eq_some_iff.mp hf
  refine clV_i (As := []) (rest := [.int x1]) (wGG cI ad bd size rc g fs st ln su rr cr bc bl td fi fa tk gr se sr size2 rc2 g2 fs2 st2 ln2 su2 rr2 cr2 bc2 bl2 td2 fi2 fa2 tk2 gr2 se2 sr2) ⟨hx, hb, hml, hown, hts⟩ (K_X3_open l D cI cZ bd H.size N size2 rc2 g2 fs2 st2 ln2 su2 rr2 cr2 bc2 bl2 td2 fi2 fa2 tk2 gr2 se2 sr2 _ hy5) (cwV 0 hts gL_areAlike_X3_open rfl rfl rfl (by decide +kernel) ⟨Nat.le_of_ble_eq_true rfl, Nat.le_of_ble_eq_true rfl⟩) hK hP hD hS hA hl.1 [17, 18, 19, 20, 21, 22, 23, 24, 25, 26, 27, 28, 29, 30, 31, 32, 33] (by decide) rfl rfl rfl 3 33 rfl rfl rfl rfl rfl (Nat.le_of_ble_eq_true rfl) dL_areAlike_5 ⟨Nat.le_of_ble_eq_true rfl, Nat.le_of_ble_eq_true rfl⟩ (fun H locs hP hD hS => ?_)
  obtain ⟨k27, hk27, hf⟩ := jn_some hf
  have w27 : ∀ (t0_27 : Int32), k27 t0_27 = some r → ∀ (H : Heap) (locs : List Loc) (ls : Array Slot), va_P D vwCl (wGG cI ad bd size rc g fs st ln su rr cr bc bl td fi fa tk gr se sr size2 rc2 g2 fs2 st2 ln2 su2 rr2 cr2 bc2 bl2 td2 fi2 fa2 tk2 gr2 se2 sr2) H → va_D A (wGG cI ad bd size rc g fs st ln su rr cr bc bl td fi fa tk gr se sr size2 rc2 g2 fs2 st2 ln2 su2 rr2 cr2 bc2 bl2 td2 fi2 fa2 tk2 gr2 se2 sr2) → va_S A s.heap H locs → lv_has ls 4 [(0, .ref (ad 16)), (1, .ref (bd 16))] → W p l e rm_L_areAlike s m args below meth c H locs 0 0 Q (F0 m 27 ls [.int t0_27]) := by
    intro t0_27 hf H locs ls hP hD hS hl
    rw [hk27] at hf
    try dsimp only at hf
    refine lv_istore_n (lv' := [(2, .int t0_27), (0, .ref (ad 16)), (1, .ref (bd 16))]) hx hb dL_areAlike_27 rfl hl (by decide) rfl (fun ls hl => ?_)
    refine lv_iconst (v := 0) hx hb dL_areAlike_28 (by decide) ?_
    refine lv_istore_n (lv' := [(3, .int 0), (2, .int t0_27), (0, .ref (ad 16)), (1, .ref (bd 16))]) hx hb dL_areAlike_29 rfl hl (by decide) rfl (fun ls hl => ?_)
    obtain ⟨k93, hk93, hf⟩ := jn_some hf
    have w93 : ∀ (v2_93 : Int32), k93 v2_93 = some r → ∀ (H : Heap) (locs : List Loc) (ls : Array Slot), va_P D vwCl (wGG cI ad bd size rc g fs st ln su rr cr bc bl td fi fa tk gr se sr size2 rc2 g2 fs2 st2 ln2 su2 rr2 cr2 bc2 bl2 td2 fi2 fa2 tk2 gr2 se2 sr2) H → va_D A (wGG cI ad bd size rc g fs st ln su rr cr bc bl td fi fa tk gr se sr size2 rc2 g2 fs2 st2 ln2 su2 rr2 cr2 bc2 bl2 td2 fi2 fa2 tk2 gr2 se2 sr2) → va_S A s.heap H locs → lv_has ls 4 [(0, .ref (ad 16)), (1, .ref (bd 16)), (2, .int v2_93)] → W p l e rm_L_areAlike s m args below meth c H locs 60 360 Q (F0 m 93 ls []) := by
      intro v2_93 hf H locs ls hP hD hS hl
      rw [hk93] at hf
      try dsimp only at hf
      refine lv_iconst (v := 0) hx hb dL_areAlike_93 (by decide) ?_
      refine lv_istore_n (lv' := [(3, .int 0), (0, .ref (ad 16)), (1, .ref (bd 16)), (2, .int v2_93)]) hx hb dL_areAlike_94 rfl hl (by decide) rfl (fun ls hl => ?_)
      have l95 : ∀ (nn : Nat) (v2_95 : Int32) (v3_95 : Int32), nn ≤ 11 → f_L_areAlike_L95 size g size2 g2 nn v2_95 v3_95 = some r → ∀ (H : Heap) (locs : List Loc) (ls : Array Slot), va_P D vwCl (wGG cI ad bd size rc g fs st ln su rr cr bc bl td fi fa tk gr se sr size2 rc2 g2 fs2 st2 ln2 su2 rr2 cr2 bc2 bl2 td2 fi2 fa2 tk2 gr2 se2 sr2) H → va_D A (wGG cI ad bd size rc g fs st ln su rr cr bc bl td fi fa tk gr se sr size2 rc2 g2 fs2 st2 ln2 su2 rr2 cr2 bc2 bl2 td2 fi2 fa2 tk2 gr2 se2 sr2) → va_S A s.heap H locs → lv_has ls 4 [(0, .ref (ad 16)), (1, .ref (bd 16)), (2, .int v2_95), (3, .int v3_95)] → W p l e rm_L_areAlike s m args below meth c H locs (82 - 2 * nn) (492 - 12 * nn) Q (F0 m 95 ls []) := by
        intro nn
        induction nn with
        | zero => intro _ _ _ hf; exact nomatch (show (none : Option _) = some r from hf)
        | succ n95 ih95 =>
          intro v2_95 v3_95 hn hf H locs ls hP hD hS hl
          rw [f_L_areAlike_L95.eq_2] at hf
          refine lv_iload_n hx hb dL_areAlike_95 rfl (lv_at hl 3 rfl) ?_
          refine lv_bipush (v := 9) hx hb dL_areAlike_96 (by decide) ?_
          refine lv_icmp_ge (tgt := 146) hx hb dL_areAlike_98 (by decide) (fun c_98 => ?_) (fun c_98 => ?_)
          · have hf := ite_t c_98 hf
            refine lv_iload_n hx hb dL_areAlike_146 rfl (lv_at hl 2 rfl) ?_
            obtain ⟨hz147, hf⟩ := gd_some hf
            cases hf
            exact hR _ _ _ _ _ _ _ _ hz147 rfl rfl hP hD hS (by omega) (by omega) dL_areAlike_147
          · have hf := ite_f c_98 hf
            refine lv_iload_n hx hb dL_areAlike_101 rfl (lv_at hl 2 rfl) ?_
            refine lv_if_eq (tgt := 146) hx hb dL_areAlike_102 (by decide) (fun c_102 => ?_) (fun c_102 => ?_)
            · have hf := ite_t c_102 hf
              refine lv_iload_n hx hb dL_areAlike_146 rfl (lv_at hl 2 rfl) ?_
              obtain ⟨hz147, hf⟩ := gd_some hf
              cases hf
              exact hR _ _ _ _ _ _ _ _ hz147 rfl rfl hP hD hS (by omega) (by omega) dL_areAlike_147
            · have hf := ite_f c_102 hf
              refine lv_aload_n hx hb dL_areAlike_105 rfl (lv_at hl 0 rfl) ?_
              refine lv_iload_n hx hb dL_areAlike_106 rfl (lv_at hl 3 rfl) ?_
              refine lv_iconst (v := 3) hx hb dL_areAlike_107 (by decide) ?_
              refine lv_idiv hx hb dL_areAlike_108 (by decide) ?_
              refine lv_iconst (v := 4) hx hb dL_areAlike_109 (by decide) ?_
              refine lv_imul hx hb dL_areAlike_110 ?_
              refine lv_iload_n hx hb dL_areAlike_111 rfl (lv_at hl 3 rfl) ?_
              refine lv_iconst (v := 3) hx hb dL_areAlike_112 (by decide) ?_
              refine lv_irem hx hb dL_areAlike_113 (by decide) ?_
              refine lv_iadd hx hb dL_areAlike_114 ?_
              obtain ⟨x115, hy115, hf⟩ := Option.bind_eq_some_iff.mp hf
              refine clSW_i (As := [.ref (ad 16), .int (((v3_95 / 3) * 4) + (v3_95 - v3_95 / 3 * 3))]) (rest := []) (wGG cI ad bd size rc g fs st ln su rr cr bc bl td fi fa tk gr se sr size2 rc2 g2 fs2 st2 ln2 su2 rr2 cr2 bc2 bl2 td2 fi2 fa2 tk2 gr2 se2 sr2) ⟨hx, hb, hml, hown, hts⟩ (K_L_digit l hst D cI cZ ad H.size size rc g fs st ln su rr cr bc bl td fi fa tk gr se sr (((v3_95 / 3) * 4) + (v3_95 - v3_95 / 3 * 3)) _ hy115) (vx_cwSW 2 hts gL_areAlike_L_digit rfl rfl rfl (by decide +kernel) ⟨Nat.le_of_ble_eq_true rfl, Nat.le_of_ble_eq_true rfl⟩) hK hXS hNC hP hD hS hA hl.1 [0, 1, 2, 3, 4, 5, 6, 7, 8, 9, 10, 11, 12, 13, 14, 15, 16] (by decide) rfl rfl rfl rfl rfl (Nat.le_of_ble_eq_true rfl) dL_areAlike_115 ⟨by show _ ≤ 82; omega, by show _ ≤ 492; omega⟩ (fun H locs hP hD hS => ?_)
              refine lv_aload_n hx hb dL_areAlike_118 rfl (lv_at hl 1 rfl) ?_
              refine lv_iload_n hx hb dL_areAlike_119 rfl (lv_at hl 3 rfl) ?_
              refine lv_iconst (v := 3) hx hb dL_areAlike_120 (by decide) ?_
              refine lv_idiv hx hb dL_areAlike_121 (by decide) ?_
              refine lv_iconst (v := 4) hx hb dL_areAlike_122 (by decide) ?_
              refine lv_imul hx hb dL_areAlike_123 ?_
              refine lv_iload_n hx hb dL_areAlike_124 rfl (lv_at hl 3 rfl) ?_
              refine lv_iconst (v := 3) hx hb dL_areAlike_125 (by decide) ?_
              refine lv_irem hx hb dL_areAlike_126 (by decide) ?_
              refine lv_iadd hx hb dL_areAlike_127 ?_
              obtain ⟨x128, hy128, hf⟩ := Option.bind_eq_some_iff.mp hf
              refine clSW_i (As := [.ref (bd 16), .int (((v3_95 / 3) * 4) + (v3_95 - v3_95 / 3 * 3))]) (rest := [.int x115]) (wGG cI ad bd size rc g fs st ln su rr cr bc bl td fi fa tk gr se sr size2 rc2 g2 fs2 st2 ln2 su2 rr2 cr2 bc2 bl2 td2 fi2 fa2 tk2 gr2 se2 sr2) ⟨hx, hb, hml, hown, hts⟩ (K_L_digit l hst D cI cZ bd H.size size2 rc2 g2 fs2 st2 ln2 su2 rr2 cr2 bc2 bl2 td2 fi2 fa2 tk2 gr2 se2 sr2 (((v3_95 / 3) * 4) + (v3_95 - v3_95 / 3 * 3)) _ hy128) (vx_cwSW 2 hts gL_areAlike_L_digit rfl rfl rfl (by decide +kernel) ⟨Nat.le_of_ble_eq_true rfl, Nat.le_of_ble_eq_true rfl⟩) hK hXS hNC hP hD hS hA hl.1 [17, 18, 19, 20, 21, 22, 23, 24, 25, 26, 27, 28, 29, 30, 31, 32, 33] (by decide) rfl rfl rfl rfl rfl (Nat.le_of_ble_eq_true rfl) dL_areAlike_128 ⟨by show _ ≤ 82; omega, by show _ ≤ 492; omega⟩ (fun H locs hP hD hS => ?_)
              obtain ⟨k139, hk139, hf⟩ := jn_some hf
              have w139 : ∀ (t0_139 : Int32), k139 t0_139 = some r → ∀ (H : Heap) (locs : List Loc) (ls : Array Slot), va_P D vwCl (wGG cI ad bd size rc g fs st ln su rr cr bc bl td fi fa tk gr se sr size2 rc2 g2 fs2 st2 ln2 su2 rr2 cr2 bc2 bl2 td2 fi2 fa2 tk2 gr2 se2 sr2) H → va_D A (wGG cI ad bd size rc g fs st ln su rr cr bc bl td fi fa tk gr se sr size2 rc2 g2 fs2 st2 ln2 su2 rr2 cr2 bc2 bl2 td2 fi2 fa2 tk2 gr2 se2 sr2) → va_S A s.heap H locs → lv_has ls 4 [(0, .ref (ad 16)), (1, .ref (bd 16)), (3, .int v3_95)] → W p l e rm_L_areAlike s m args below meth c H locs (82 - 2 * (n95 + 1) + 2) (492 - 12 * (n95 + 1) + 12) Q (F0 m 139 ls [.int t0_139]) := by
                intro t0_139 hf H locs ls hP hD hS hl
                rw [hk139] at hf
                try dsimp only at hf
                refine lv_istore_n (lv' := [(2, .int t0_139), (0, .ref (ad 16)), (1, .ref (bd 16)), (3, .int v3_95)]) hx hb dL_areAlike_139 rfl hl (by decide) rfl (fun ls hl => ?_)
                refine lv_iinc (v := (v3_95 + 1)) (lv' := [(3, .int (v3_95 + 1)), (2, .int t0_139), (0, .ref (ad 16)), (1, .ref (bd 16))]) hx hb dL_areAlike_140 hl (k := 3) rfl rfl (by decide) rfl (fun ls hl => ?_)
                refine lv_goto (tgt := 95) hx hb dL_areAlike_143 (by decide) ?_
                refine W.widen (k := 82 - 2 * n95) (n := 492 - 12 * n95) (by omega) (by omega) ?_
                exact ih95 t0_139 (v3_95 + 1) (by omega) hf _ _ _ hP hD hS (lv_sub hl [2, 3, 1, 0] rfl)
              refine lv_icmp_ne (tgt := 138) hx hb dL_areAlike_131 (by decide) (fun c_131 => ?_) (fun c_131 => ?_)
              · have hf := ite_f c_131 hf
                refine lv_iconst (v := 0) hx hb dL_areAlike_138 (by decide) ?_
                exact w139 0 hf _ _ _ hP hD hS (lv_sub hl [0, 1, 3] rfl)
              · have hf := ite_t c_131 hf
                refine lv_iconst (v := 1) hx hb dL_areAlike_134 (by decide) ?_
                refine lv_goto (tgt := 139) hx hb dL_areAlike_135 (by decide) ?_
                exact w139 1 hf _ _ _ hP hD hS (lv_sub hl [0, 1, 3] rfl)
      refine W.widen (k := 82 - 2 * 11) (n := 492 - 12 * 11) (Nat.le_of_ble_eq_true rfl) (Nat.le_of_ble_eq_true rfl) ?_
      exact l95 11 v2_93 0 (Nat.le_refl _) hf _ _ _ hP hD hS (lv_sub hl [1, 2, 3, 0] rfl)
    have l30 : ∀ (nn : Nat) (v2_30 : Int32) (v3_30 : Int32), nn ≤ 10 → f_L_areAlike_L30 rc fs ln su rc2 fs2 ln2 su2 k93 nn v2_30 v3_30 = some r → ∀ (H : Heap) (locs : List Loc) (ls : Array Slot), va_P D vwCl (wGG cI ad bd size rc g fs st ln su rr cr bc bl td fi fa tk gr se sr size2 rc2 g2 fs2 st2 ln2 su2 rr2 cr2 bc2 bl2 td2 fi2 fa2 tk2 gr2 se2 sr2) H → va_D A (wGG cI ad bd size rc g fs st ln su rr cr bc bl td fi fa tk gr se sr size2 rc2 g2 fs2 st2 ln2 su2 rr2 cr2 bc2 bl2 td2 fi2 fa2 tk2 gr2 se2 sr2) → va_S A s.heap H locs → lv_has ls 4 [(0, .ref (ad 16)), (1, .ref (bd 16)), (2, .int v2_30), (3, .int v3_30)] → W p l e rm_L_areAlike s m args below meth c H locs (60 - 6 * nn) (360 - 36 * nn) Q (F0 m 30 ls []) := by
      intro nn
      induction nn with
      | zero => intro _ _ _ hf; exact nomatch (show (none : Option _) = some r from hf)
      | succ n30 ih30 =>
        intro v2_30 v3_30 hn hf H locs ls hP hD hS hl
        rw [f_L_areAlike_L30.eq_2] at hf
        refine lv_iload_n hx hb dL_areAlike_30 rfl (lv_at hl 3 rfl) ?_
        refine lv_aload_n hx hb dL_areAlike_31 rfl (lv_at hl 0 rfl) ?_
        refine clV_i (As := []) (rest := [.int v3_30]) (wGG cI ad bd size rc g fs st ln su rr cr bc bl td fi fa tk gr se sr size2 rc2 g2 fs2 st2 ln2 su2 rr2 cr2 bc2 bl2 td2 fi2 fa2 tk2 gr2 se2 sr2) ⟨hx, hb, hml, hown, hts⟩ (K_X3_runs l D cI cZ ad H.size size rc g fs st ln su rr cr bc bl td fi fa tk gr se sr _ rfl) (cwV 0 hts gL_areAlike_X3_runs rfl rfl rfl (by decide +kernel) ⟨Nat.le_of_ble_eq_true rfl, Nat.le_of_ble_eq_true rfl⟩) hK hP hD hS hA hl.1 [0, 1, 2, 3, 4, 5, 6, 7, 8, 9, 10, 11, 12, 13, 14, 15, 16] (by decide) rfl rfl rfl 3 16 rfl rfl rfl rfl rfl (Nat.le_of_ble_eq_true rfl) dL_areAlike_32 ⟨by show _ ≤ 82; omega, by show _ ≤ 492; omega⟩ (fun H locs hP hD hS => ?_)
        refine lv_icmp_ge (tgt := 93) hx hb dL_areAlike_35 (by decide) (fun c_35 => ?_) (fun c_35 => ?_)
        · have hf := ite_t c_35 hf
          refine W.widen (k := 60) (n := 360) (by omega) (by omega) ?_
          exact w93 v2_30 hf _ _ _ hP hD hS (lv_sub hl [0, 1, 2] rfl)
        · have hf := ite_f c_35 hf
          refine lv_iload_n hx hb dL_areAlike_38 rfl (lv_at hl 2 rfl) ?_
          refine lv_if_eq (tgt := 93) hx hb dL_areAlike_39 (by decide) (fun c_39 => ?_) (fun c_39 => ?_)
          · have hf := ite_t c_39 hf
            refine W.widen (k := 60) (n := 360) (by omega) (by omega) ?_
            exact w93 v2_30 hf _ _ _ hP hD hS (lv_sub hl [0, 1, 2] rfl)
          · have hf := ite_f c_39 hf
            refine lv_aload_n hx hb dL_areAlike_42 rfl (lv_at hl 0 rfl) ?_
            refine lv_iload_n hx hb dL_areAlike_43 rfl (lv_at hl 3 rfl) ?_
            obtain ⟨x44, hy44, hf⟩ := Option.bind_eq_some_iff.mp hf
            refine clX_i (As := [.int v3_30]) (rest := []) (fun (u : Int32) => u) (fun (u : Int32) => wG cI ad size rc g fs st ln su rr cr bc bl td fi fa tk gr se sr) (fun (u : Nat) => u) (fun (u : Nat) => wG cI ad size rc g fs st ln su rr cr bc bl td fi fa tk gr se sr) (fun (u : Int32) => wGG cI ad bd size rc g fs st ln su rr cr bc bl td fi fa tk gr se sr size2 rc2 g2 fs2 st2 ln2 su2 rr2 cr2 bc2 bl2 td2 fi2 fa2 tk2 gr2 se2 sr2) (fun (u : Nat) => wGG cI ad bd size rc g fs st ln su rr cr bc bl td fi fa tk gr se sr size2 rc2 g2 fs2 st2 ln2 su2 rr2 cr2 bc2 bl2 td2 fi2 fa2 tk2 gr2 se2 sr2) ⟨hx, hb, hml, hown, hts⟩ (K_X3_sumOf l hst D cI cZ ad H.size size rc g fs st ln su rr cr bc bl td fi fa tk gr se sr v3_30 _ hy44) (cwV 1 hts gL_areAlike_X3_sumOf rfl rfl rfl (by decide +kernel) ⟨Nat.le_of_ble_eq_true rfl, Nat.le_of_ble_eq_true rfl⟩) hK hXS hP hD hS hA hl.1 [0, 1, 2, 3, 4, 5, 6, 7, 8, 9, 10, 11, 12, 13, 14, 15, 16] (by decide) rfl (fun _ => rfl) (fun _ => rfl) (fun _ => rfl) (fun _ => rfl) 3 16 rfl rfl rfl rfl rfl (Nat.le_of_ble_eq_true rfl) dL_areAlike_44 ⟨by show _ ≤ 82; omega, by show _ ≤ 492; omega⟩ (fun z44 hz E ce q9 H locs hE hP hD hS hq hv hc => ?_) (fun y44 hz H locs hP hD hS => ?_)
            · rw [hz] at hf
              have hf := sm_r hf
              exact nomatch hf
            · rw [hz] at hf
              have hf := sm_l hf
              refine lv_aload_n hx hb dL_areAlike_47 rfl (lv_at hl 1 rfl) ?_
              refine lv_iload_n hx hb dL_areAlike_48 rfl (lv_at hl 3 rfl) ?_
              obtain ⟨x49, hy49, hf⟩ := Option.bind_eq_some_iff.mp hf
              refine clX_i (As := [.int v3_30]) (rest := [.int y44]) (fun (u : Int32) => u) (fun (u : Int32) => wG cI bd size2 rc2 g2 fs2 st2 ln2 su2 rr2 cr2 bc2 bl2 td2 fi2 fa2 tk2 gr2 se2 sr2) (fun (u : Nat) => u) (fun (u : Nat) => wG cI bd size2 rc2 g2 fs2 st2 ln2 su2 rr2 cr2 bc2 bl2 td2 fi2 fa2 tk2 gr2 se2 sr2) (fun (u : Int32) => wGG cI ad bd size rc g fs st ln su rr cr bc bl td fi fa tk gr se sr size2 rc2 g2 fs2 st2 ln2 su2 rr2 cr2 bc2 bl2 td2 fi2 fa2 tk2 gr2 se2 sr2) (fun (u : Nat) => wGG cI ad bd size rc g fs st ln su rr cr bc bl td fi fa tk gr se sr size2 rc2 g2 fs2 st2 ln2 su2 rr2 cr2 bc2 bl2 td2 fi2 fa2 tk2 gr2 se2 sr2) ⟨hx, hb, hml, hown, hts⟩ (K_X3_sumOf l hst D cI cZ bd H.size size2 rc2 g2 fs2 st2 ln2 su2 rr2 cr2 bc2 bl2 td2 fi2 fa2 tk2 gr2 se2 sr2 v3_30 _ hy49) (cwV 1 hts gL_areAlike_X3_sumOf rfl rfl rfl (by decide +kernel) ⟨Nat.le_of_ble_eq_true rfl, Nat.le_of_ble_eq_true rfl⟩) hK hXS hP hD hS hA hl.1 [17, 18, 19, 20, 21, 22, 23, 24, 25, 26, 27, 28, 29, 30, 31, 32, 33] (by decide) rfl (fun _ => rfl) (fun _ => rfl) (fun _ => rfl) (fun _ => rfl) 3 33 rfl rfl rfl rfl rfl (Nat.le_of_ble_eq_true rfl) dL_areAlike_49 ⟨by show _ ≤ 82; omega, by show _ ≤ 492; omega⟩ (fun z49 hz E ce q9 H locs hE hP hD hS hq hv hc => ?_) (fun y49 hz H locs hP hD hS => ?_)
              · rw [hz] at hf
                have hf := sm_r hf
                exact nomatch hf
              · rw [hz] at hf
                have hf := sm_l hf
                obtain ⟨k86, hk86, hf⟩ := jn_some hf
                have w86 : ∀ (t0_86 : Int32), k86 t0_86 = some r → ∀ (H : Heap) (locs : List Loc) (ls : Array Slot), va_P D vwCl (wGG cI ad bd size rc g fs st ln su rr cr bc bl td fi fa tk gr se sr size2 rc2 g2 fs2 st2 ln2 su2 rr2 cr2 bc2 bl2 td2 fi2 fa2 tk2 gr2 se2 sr2) H → va_D A (wGG cI ad bd size rc g fs st ln su rr cr bc bl td fi fa tk gr se sr size2 rc2 g2 fs2 st2 ln2 su2 rr2 cr2 bc2 bl2 td2 fi2 fa2 tk2 gr2 se2 sr2) → va_S A s.heap H locs → lv_has ls 4 [(0, .ref (ad 16)), (1, .ref (bd 16)), (3, .int v3_30)] → W p l e rm_L_areAlike s m args below meth c H locs (60 - 6 * (n30 + 1) + 6) (360 - 36 * (n30 + 1) + 36) Q (F0 m 86 ls [.int t0_86]) := by
                  intro t0_86 hf H locs ls hP hD hS hl
                  rw [hk86] at hf
                  try dsimp only at hf
                  refine lv_istore_n (lv' := [(2, .int t0_86), (0, .ref (ad 16)), (1, .ref (bd 16)), (3, .int v3_30)]) hx hb dL_areAlike_86 rfl hl (by decide) rfl (fun ls hl => ?_)
                  refine lv_iinc (v := (v3_30 + 1)) (lv' := [(3, .int (v3_30 + 1)), (2, .int t0_86), (0, .ref (ad 16)), (1, .ref (bd 16))]) hx hb dL_areAlike_87 hl (k := 3) rfl rfl (by decide) rfl (fun ls hl => ?_)
                  refine lv_goto (tgt := 30) hx hb dL_areAlike_90 (by decide) ?_
                  refine W.widen (k := 60 - 6 * n30) (n := 360 - 36 * n30) (by omega) (by omega) ?_
                  exact ih30 t0_86 (v3_30 + 1) (by omega) hf _ _ _ hP hD hS (lv_sub hl [2, 3, 1, 0] rfl)
                obtain ⟨k85, hk85, hf⟩ := jn_some hf
                have w85 : ∀ (_ : Unit), k85 () = some r → ∀ (H : Heap) (locs : List Loc) (ls : Array Slot), va_P D vwCl (wGG cI ad bd size rc g fs st ln su rr cr bc bl td fi fa tk gr se sr size2 rc2 g2 fs2 st2 ln2 su2 rr2 cr2 bc2 bl2 td2 fi2 fa2 tk2 gr2 se2 sr2) H → va_D A (wGG cI ad bd size rc g fs st ln su rr cr bc bl td fi fa tk gr se sr size2 rc2 g2 fs2 st2 ln2 su2 rr2 cr2 bc2 bl2 td2 fi2 fa2 tk2 gr2 se2 sr2) → va_S A s.heap H locs → lv_has ls 4 [(0, .ref (ad 16)), (1, .ref (bd 16)), (3, .int v3_30)] → W p l e rm_L_areAlike s m args below meth c H locs (60 - 6 * (n30 + 1) + 6) (360 - 36 * (n30 + 1) + 36) Q (F0 m 85 ls []) := by
                  intro _ hf H locs ls hP hD hS hl
                  rw [hk85] at hf
                  try dsimp only at hf
                  refine lv_iconst (v := 0) hx hb dL_areAlike_85 (by decide) ?_
                  exact w86 0 hf _ _ _ hP hD hS (lv_sub hl [0, 1, 2] rfl)
                refine lv_icmp_ne (tgt := 85) hx hb dL_areAlike_52 (by decide) (fun c_52 => ?_) (fun c_52 => ?_)
                · have hf := ite_f c_52 hf
                  refine W.widen (k := (60 - 6 * (n30 + 1) + 6)) (n := (360 - 36 * (n30 + 1) + 36)) (by omega) (by omega) ?_
                  exact w85 () hf _ _ _ hP hD hS (lv_sub hl [0, 1, 3] rfl)
                · have hf := ite_t c_52 hf
                  refine lv_aload_n hx hb dL_areAlike_55 rfl (lv_at hl 0 rfl) ?_
                  refine lv_iload_n hx hb dL_areAlike_56 rfl (lv_at hl 3 rfl) ?_
                  obtain ⟨x57, hy57, hf⟩ := Option.bind_eq_some_iff.mp hf
                  refine clX_i (As := [.int v3_30]) (rest := []) (fun (u : Int32) => u) (fun (u : Int32) => wG cI ad size rc g fs st ln su rr cr bc bl td fi fa tk gr se sr) (fun (u : Nat) => u) (fun (u : Nat) => wG cI ad size rc g fs st ln su rr cr bc bl td fi fa tk gr se sr) (fun (u : Int32) => wGG cI ad bd size rc g fs st ln su rr cr bc bl td fi fa tk gr se sr size2 rc2 g2 fs2 st2 ln2 su2 rr2 cr2 bc2 bl2 td2 fi2 fa2 tk2 gr2 se2 sr2) (fun (u : Nat) => wGG cI ad bd size rc g fs st ln su rr cr bc bl td fi fa tk gr se sr size2 rc2 g2 fs2 st2 ln2 su2 rr2 cr2 bc2 bl2 td2 fi2 fa2 tk2 gr2 se2 sr2) ⟨hx, hb, hml, hown, hts⟩ (K_X3_firstOf l hst D cI cZ ad H.size size rc g fs st ln su rr cr bc bl td fi fa tk gr se sr v3_30 _ hy57) (cwV 1 hts gL_areAlike_X3_firstOf rfl rfl rfl (by decide +kernel) ⟨Nat.le_of_ble_eq_true rfl, Nat.le_of_ble_eq_true rfl⟩) hK hXS hP hD hS hA hl.1 [0, 1, 2, 3, 4, 5, 6, 7, 8, 9, 10, 11, 12, 13, 14, 15, 16] (by decide) rfl (fun _ => rfl) (fun _ => rfl) (fun _ => rfl) (fun _ => rfl) 3 16 rfl rfl rfl rfl rfl (Nat.le_of_ble_eq_true rfl) dL_areAlike_57 ⟨by show _ ≤ 82; omega, by show _ ≤ 492; omega⟩ (fun z57 hz E ce q9 H locs hE hP hD hS hq hv hc => ?_) (fun y57 hz H locs hP hD hS => ?_)
                  · rw [hz] at hf
                    have hf := sm_r hf
                    exact nomatch hf
                  · rw [hz] at hf
                    have hf := sm_l hf
                    refine lv_aload_n hx hb dL_areAlike_60 rfl (lv_at hl 1 rfl) ?_
                    refine lv_iload_n hx hb dL_areAlike_61 rfl (lv_at hl 3 rfl) ?_
                    obtain ⟨x62, hy62, hf⟩ := Option.bind_eq_some_iff.mp hf
                    refine clX_i (As := [.int v3_30]) (rest := [.int y57]) (fun (u : Int32) => u) (fun (u : Int32) => wG cI bd size2 rc2 g2 fs2 st2 ln2 su2 rr2 cr2 bc2 bl2 td2 fi2 fa2 tk2 gr2 se2 sr2) (fun (u : Nat) => u) (fun (u : Nat) => wG cI bd size2 rc2 g2 fs2 st2 ln2 su2 rr2 cr2 bc2 bl2 td2 fi2 fa2 tk2 gr2 se2 sr2) (fun (u : Int32) => wGG cI ad bd size rc g fs st ln su rr cr bc bl td fi fa tk gr se sr size2 rc2 g2 fs2 st2 ln2 su2 rr2 cr2 bc2 bl2 td2 fi2 fa2 tk2 gr2 se2 sr2) (fun (u : Nat) => wGG cI ad bd size rc g fs st ln su rr cr bc bl td fi fa tk gr se sr size2 rc2 g2 fs2 st2 ln2 su2 rr2 cr2 bc2 bl2 td2 fi2 fa2 tk2 gr2 se2 sr2) ⟨hx, hb, hml, hown, hts⟩ (K_X3_firstOf l hst D cI cZ bd H.size size2 rc2 g2 fs2 st2 ln2 su2 rr2 cr2 bc2 bl2 td2 fi2 fa2 tk2 gr2 se2 sr2 v3_30 _ hy62) (cwV 1 hts gL_areAlike_X3_firstOf rfl rfl rfl (by decide +kernel) ⟨Nat.le_of_ble_eq_true rfl, Nat.le_of_ble_eq_true rfl⟩) hK hXS hP hD hS hA hl.1 [17, 18, 19, 20, 21, 22, 23, 24, 25, 26, 27, 28, 29, 30, 31, 32, 33] (by decide) rfl (fun _ => rfl) (fun _ => rfl) (fun _ => rfl) (fun _ => rfl) 3 33 rfl rfl rfl rfl rfl (Nat.le_of_ble_eq_true rfl) dL_areAlike_62 ⟨by show _ ≤ 82; omega, by show _ ≤ 492; omega⟩ (fun z62 hz E ce q9 H locs hE hP hD hS hq hv hc => ?_) (fun y62 hz H locs hP hD hS => ?_)
                    · rw [hz] at hf
                      have hf := sm_r hf
                      exact nomatch hf
                    · rw [hz] at hf
                      have hf := sm_l hf
                      refine lv_icmp_ne (tgt := 85) hx hb dL_areAlike_65 (by decide) (fun c_65 => ?_) (fun c_65 => ?_)
                      · have hf := ite_f c_65 hf
                        refine W.widen (k := (60 - 6 * (n30 + 1) + 6)) (n := (360 - 36 * (n30 + 1) + 36)) (by omega) (by omega) ?_
                        exact w85 () hf _ _ _ hP hD hS (lv_sub hl [0, 1, 3] rfl)
                      · have hf := ite_t c_65 hf
                        refine lv_aload_n hx hb dL_areAlike_68 rfl (lv_at hl 0 rfl) ?_
                        refine lv_iload_n hx hb dL_areAlike_69 rfl (lv_at hl 3 rfl) ?_
                        obtain ⟨x70, hy70, hf⟩ := Option.bind_eq_some_iff.mp hf
                        refine clX_i (As := [.int v3_30]) (rest := []) (fun (u : Int32) => u) (fun (u : Int32) => wG cI ad size rc g fs st ln su rr cr bc bl td fi fa tk gr se sr) (fun (u : Nat) => u) (fun (u : Nat) => wG cI ad size rc g fs st ln su rr cr bc bl td fi fa tk gr se sr) (fun (u : Int32) => wGG cI ad bd size rc g fs st ln su rr cr bc bl td fi fa tk gr se sr size2 rc2 g2 fs2 st2 ln2 su2 rr2 cr2 bc2 bl2 td2 fi2 fa2 tk2 gr2 se2 sr2) (fun (u : Nat) => wGG cI ad bd size rc g fs st ln su rr cr bc bl td fi fa tk gr se sr size2 rc2 g2 fs2 st2 ln2 su2 rr2 cr2 bc2 bl2 td2 fi2 fa2 tk2 gr2 se2 sr2) ⟨hx, hb, hml, hown, hts⟩ (K_X3_lengthOf l hst D cI cZ ad H.size size rc g fs st ln su rr cr bc bl td fi fa tk gr se sr v3_30 _ hy70) (cwV 1 hts gL_areAlike_X3_lengthOf rfl rfl rfl (by decide +kernel) ⟨Nat.le_of_ble_eq_true rfl, Nat.le_of_ble_eq_true rfl⟩) hK hXS hP hD hS hA hl.1 [0, 1, 2, 3, 4, 5, 6, 7, 8, 9, 10, 11, 12, 13, 14, 15, 16] (by decide) rfl (fun _ => rfl) (fun _ => rfl) (fun _ => rfl) (fun _ => rfl) 3 16 rfl rfl rfl rfl rfl (Nat.le_of_ble_eq_true rfl) dL_areAlike_70 ⟨by show _ ≤ 82; omega, by show _ ≤ 492; omega⟩ (fun z70 hz E ce q9 H locs hE hP hD hS hq hv hc => ?_) (fun y70 hz H locs hP hD hS => ?_)
                        · rw [hz] at hf
                          have hf := sm_r hf
                          exact nomatch hf
                        · rw [hz] at hf
                          have hf := sm_l hf
                          refine lv_aload_n hx hb dL_areAlike_73 rfl (lv_at hl 1 rfl) ?_
                          refine lv_iload_n hx hb dL_areAlike_74 rfl (lv_at hl 3 rfl) ?_
                          obtain ⟨x75, hy75, hf⟩ := Option.bind_eq_some_iff.mp hf
                          refine clX_i (As := [.int v3_30]) (rest := [.int y70]) (fun (u : Int32) => u) (fun (u : Int32) => wG cI bd size2 rc2 g2 fs2 st2 ln2 su2 rr2 cr2 bc2 bl2 td2 fi2 fa2 tk2 gr2 se2 sr2) (fun (u : Nat) => u) (fun (u : Nat) => wG cI bd size2 rc2 g2 fs2 st2 ln2 su2 rr2 cr2 bc2 bl2 td2 fi2 fa2 tk2 gr2 se2 sr2) (fun (u : Int32) => wGG cI ad bd size rc g fs st ln su rr cr bc bl td fi fa tk gr se sr size2 rc2 g2 fs2 st2 ln2 su2 rr2 cr2 bc2 bl2 td2 fi2 fa2 tk2 gr2 se2 sr2) (fun (u : Nat) => wGG cI ad bd size rc g fs st ln su rr cr bc bl td fi fa tk gr se sr size2 rc2 g2 fs2 st2 ln2 su2 rr2 cr2 bc2 bl2 td2 fi2 fa2 tk2 gr2 se2 sr2) ⟨hx, hb, hml, hown, hts⟩ (K_X3_lengthOf l hst D cI cZ bd H.size size2 rc2 g2 fs2 st2 ln2 su2 rr2 cr2 bc2 bl2 td2 fi2 fa2 tk2 gr2 se2 sr2 v3_30 _ hy75) (cwV 1 hts gL_areAlike_X3_lengthOf rfl rfl rfl (by decide +kernel) ⟨Nat.le_of_ble_eq_true rfl, Nat.le_of_ble_eq_true rfl⟩) hK hXS hP hD hS hA hl.1 [17, 18, 19, 20, 21, 22, 23, 24, 25, 26, 27, 28, 29, 30, 31, 32, 33] (by decide) rfl (fun _ => rfl) (fun _ => rfl) (fun _ => rfl) (fun _ => rfl) 3 33 rfl rfl rfl rfl rfl (Nat.le_of_ble_eq_true rfl) dL_areAlike_75 ⟨by show _ ≤ 82; omega, by show _ ≤ 492; omega⟩ (fun z75 hz E ce q9 H locs hE hP hD hS hq hv hc => ?_) (fun y75 hz H locs hP hD hS => ?_)
                          · rw [hz] at hf
                            have hf := sm_r hf
                            exact nomatch hf
                          · rw [hz] at hf
                            have hf := sm_l hf
                            refine lv_icmp_ne (tgt := 85) hx hb dL_areAlike_78 (by decide) (fun c_78 => ?_) (fun c_78 => ?_)
                            · have hf := ite_f c_78 hf
                              exact w85 () hf _ _ _ hP hD hS (lv_sub hl [0, 1, 3] rfl)
                            · have hf := ite_t c_78 hf
                              refine lv_iconst (v := 1) hx hb dL_areAlike_81 (by decide) ?_
                              refine lv_goto (tgt := 86) hx hb dL_areAlike_82 (by decide) ?_
                              exact w86 1 hf _ _ _ hP hD hS (lv_sub hl [0, 1, 3] rfl)
    refine W.widen (k := 60 - 6 * 10) (n := 360 - 36 * 10) (Nat.le_of_ble_eq_true rfl) (Nat.le_of_ble_eq_true rfl) ?_
    exact l30 10 t0_27 0 (Nat.le_refl _) hf _ _ _ hP hD hS (lv_sub hl [2, 3, 1, 0] rfl)
  obtain ⟨k26, hk26, hf⟩ := jn_some hf
  have w26 : ∀ (_ : Unit), k26 () = some r → ∀ (H : Heap) (locs : List Loc) (ls : Array Slot), va_P D vwCl (wGG cI ad bd size rc g fs st ln su rr cr bc bl td fi fa tk gr se sr size2 rc2 g2 fs2 st2 ln2 su2 rr2 cr2 bc2 bl2 td2 fi2 fa2 tk2 gr2 se2 sr2) H → va_D A (wGG cI ad bd size rc g fs st ln su rr cr bc bl td fi fa tk gr se sr size2 rc2 g2 fs2 st2 ln2 su2 rr2 cr2 bc2 bl2 td2 fi2 fa2 tk2 gr2 se2 sr2) → va_S A s.heap H locs → lv_has ls 4 [(0, .ref (ad 16)), (1, .ref (bd 16))] → W p l e rm_L_areAlike s m args below meth c H locs 0 0 Q (F0 m 26 ls []) := by
    intro _ hf H locs ls hP hD hS hl
    rw [hk26] at hf
    try dsimp only at hf
    refine lv_iconst (v := 0) hx hb dL_areAlike_26 (by decide) ?_
    exact w27 0 hf _ _ _ hP hD hS (lv_sub hl [0, 1] rfl)
  refine lv_icmp_ne (tgt := 26) hx hb dL_areAlike_8 (by decide) (fun c_8 => ?_) (fun c_8 => ?_)
  · have hf := ite_f c_8 hf
    exact w26 () hf _ _ _ hP hD hS (lv_sub hl [0, 1] rfl)
  · have hf := ite_t c_8 hf
    refine lv_aload_n hx hb dL_areAlike_11 rfl (lv_at hl 0 rfl) ?_
    refine clV_i (As := []) (rest := []) (wGG cI ad bd size rc g fs st ln su rr cr bc bl td fi fa tk gr se sr size2 rc2 g2 fs2 st2 ln2 su2 rr2 cr2 bc2 bl2 td2 fi2 fa2 tk2 gr2 se2 sr2) ⟨hx, hb, hml, hown, hts⟩ (K_X3_runs l D cI cZ ad H.size size rc g fs st ln su rr cr bc bl td fi fa tk gr se sr _ rfl) (cwV 0 hts gL_areAlike_X3_runs rfl rfl rfl (by decide +kernel) ⟨Nat.le_of_ble_eq_true rfl, Nat.le_of_ble_eq_true rfl⟩) hK hP hD hS hA hl.1 [0, 1, 2, 3, 4, 5, 6, 7, 8, 9, 10, 11, 12, 13, 14, 15, 16] (by decide) rfl rfl rfl 3 16 rfl rfl rfl rfl rfl (Nat.le_of_ble_eq_true rfl) dL_areAlike_12 ⟨Nat.le_of_ble_eq_true rfl, Nat.le_of_ble_eq_true rfl⟩ (fun H locs hP hD hS => ?_)
    refine lv_aload_n hx hb dL_areAlike_15 rfl (lv_at hl 1 rfl) ?_
    refine clV_i (As := []) (rest := [.int (f_X3_runs rc)]) (wGG cI ad bd size rc g fs st ln su rr cr bc bl td fi fa tk gr se sr size2 rc2 g2 fs2 st2 ln2 su2 rr2 cr2 bc2 bl2 td2 fi2 fa2 tk2 gr2 se2 sr2) ⟨hx, hb, hml, hown, hts⟩ (K_X3_runs l D cI cZ bd H.size size2 rc2 g2 fs2 st2 ln2 su2 rr2 cr2 bc2 bl2 td2 fi2 fa2 tk2 gr2 se2 sr2 _ rfl) (cwV 0 hts gL_areAlike_X3_runs rfl rfl rfl (by decide +kernel) ⟨Nat.le_of_ble_eq_true rfl, Nat.le_of_ble_eq_true rfl⟩) hK hP hD hS hA hl.1 [17, 18, 19, 20, 21, 22, 23, 24, 25, 26, 27, 28, 29, 30, 31, 32, 33] (by decide) rfl rfl rfl 3 33 rfl rfl rfl rfl rfl (Nat.le_of_ble_eq_true rfl) dL_areAlike_16 ⟨Nat.le_of_ble_eq_true rfl, Nat.le_of_ble_eq_true rfl⟩ (fun H locs hP hD hS => ?_)
    refine lv_icmp_ne (tgt := 26) hx hb dL_areAlike_19 (by decide) (fun c_19 => ?_) (fun c_19 => ?_)
    · have hf := ite_f c_19 hf
      exact w26 () hf _ _ _ hP hD hS (lv_sub hl [0, 1] rfl)
    · have hf := ite_t c_19 hf
      refine lv_iconst (v := 1) hx hb dL_areAlike_22 (by decide) ?_
      refine lv_goto (tgt := 27) hx hb dL_areAlike_23 (by decide) ?_
      exact w27 1 hf _ _ _ hP hD hS (lv_sub hl [0, 1] rfl)
