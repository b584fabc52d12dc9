def f_L_areAnswersSo_L17 (size : Int32) (g : Nat → Int32) (k49 : Int32 → Option (Int32 × (Nat → Int32) × Int32 × (Nat → Int32) × (Nat → Int32) × (Nat → Int32) × (Nat → Int32) × (Nat → Int32) × Int32 × (Nat → Int32) × (Nat → Int32) × (Nat → Int32) × (Nat → Int32))) : Nat → Int32 → Int32 → Option (Int32 × (Nat → Int32) × Int32 × (Nat → Int32) × (Nat → Int32) × (Nat → Int32) × (Nat → Int32) × (Nat → Int32) × Int32 × (Nat → Int32) × (Nat → Int32) × (Nat → Int32) × (Nat → Int32))
  | 0, _, _ => none
  | n17 + 1, v4_17, v5_17 =>
    (if 16 ≤ v5_17 then k49 v4_17 else (f_L_digit size g v5_17).bind fun x29 => jn (fun (t0_40 : Int32) => f_L_areAnswersSo_L17 size g k49 n17 (v4_17 + t0_40) (v5_17 + 1)) fun k40 => (if x29 = 0 then k40 1 else k40 0))
def f_L_areAnswersSo (N : Nat) (size : Int32) (rc : Int32) (g : Nat → Int32) (fs : Nat → Int32) (st : Nat → Int32) (ln : Nat → Int32) (su : Nat → Int32) (rr : Nat → Int32) (cr : Nat → Int32) (bc : Int32) (bl : Nat → Int32) (td : Nat → Int32) (fi : Nat → Int32) (fa : Nat → Int32) (size2 : Int32) (rc2 : Int32) (g2 : Nat → Int32) (fs2 : Nat → Int32) (st2 : Nat → Int32) (ln2 : Nat → Int32) (su2 : Nat → Int32) (rr2 : Nat → Int32) (cr2 : Nat → Int32) (bc2 : Int32) (bl2 : Nat → Int32) (td2 : Nat → Int32) (fi2 : Nat → Int32) (fa2 : Nat → Int32) : Option (Int32 × (Nat → Int32) × Int32 × (Nat → Int32) × (Nat → Int32) × (Nat → Int32) × (Nat → Int32) × (Nat → Int32) × Int32 × (Nat → Int32) × (Nat → Int32) × (Nat → Int32) × (Nat → Int32)) :=
  (f_L_byAll N size rc g fs st ln su bc bl td fi).bind fun x1 => (f_X3_answers N size rc g fs st ln su rr cr x1.2.1 x1.2.2.1 x1.2.2.2.1 x1.2.2.2.2 fa 2).bind fun x7 => sm x7 (fun y7 => jn (fun (v4_49 : Int32) => jn (fun (t0_59 : Int32) => jn (fun (t0_70 : Int32) => (if t0_59 = t0_70 then jn (fun (bc_111 : Int32) (bl_111 : Nat → Int32) (td_111 : Nat → Int32) (fi_111 : Nat → Int32) (fa_111 : Nat → Int32) => (if y7.1 < 0 then (f_L_mend N size rc g fs st ln su rr cr bc_111 bl_111 td_111 fi_111 fa_111).bind fun x202 => (if x202.1 = (-99999) then some (1, x202.2.1, x202.2.2.1, x202.2.2.2.1, x202.2.2.2.2.1, x202.2.2.2.2.2.1, x202.2.2.2.2.2.2, g2, bc2, bl2, td2, fi2, fa2) else some (0, x202.2.1, x202.2.2.1, x202.2.2.2.1, x202.2.2.2.2.1, x202.2.2.2.2.2.1, x202.2.2.2.2.2.2, g2, bc2, bl2, td2, fi2, fa2)) else (f_L_mend N size rc g fs st ln su rr cr bc_111 bl_111 td_111 fi_111 fa_111).bind fun x116 => jn (fun (t0_132 : Int32) => jn (fun (t0_142 : Int32) => (if t0_132 = t0_142 then (f_L_mend N size2 rc2 g2 fs2 st2 ln2 su2 rr2 cr2 bc2 bl2 td2 fi2 fa2).bind fun x146 => jn (fun (_ : Unit) => jn (fun (bc_195 : Int32) (bl_195 : Nat → Int32) (td_195 : Nat → Int32) (fi_195 : Nat → Int32) => some (1, x116.2.1, bc_195, bl_195, td_195, fi_195, x116.2.2.2.2.2.2, x146.2.1, x146.2.2.1, x146.2.2.2.1, x146.2.2.2.2.1, x146.2.2.2.2.2.1, x146.2.2.2.2.2.2)) fun k195 => (if y7.1 < 2 then k195 x116.2.2.1 x116.2.2.2.1 x116.2.2.2.2.1 x116.2.2.2.2.2.1 else (f_L_digit size x116.2.1 x116.1).bind fun x169 => jn (fun (bc_199 : Int32) (bl_199 : Nat → Int32) (td_199 : Nat → Int32) (fi_199 : Nat → Int32) => some (0, x116.2.1, bc_199, bl_199, td_199, fi_199, x116.2.2.2.2.2.2, x146.2.1, x146.2.2.1, x146.2.2.2.1, x146.2.2.2.2.1, x146.2.2.2.2.2.1, x146.2.2.2.2.2.2)) fun k199 => (if x169 ≤ 0 then k199 x116.2.2.1 x116.2.2.2.1 x116.2.2.2.2.1 x116.2.2.2.2.2.1 else (if x1.1 < 0 then k195 x116.2.2.1 x116.2.2.2.1 x116.2.2.2.2.1 x116.2.2.2.2.2.1 else (f_L_byAll N size rc x116.2.1 fs st ln su x116.2.2.1 x116.2.2.2.1 x116.2.2.2.2.1 x116.2.2.2.2.2.1).bind fun x180 => (if x180.1 < 1 then k199 x180.2.1 x180.2.2.1 x180.2.2.2.1 x180.2.2.2.2 else (f_L_byAll N size rc x116.2.1 fs st ln su x180.2.1 x180.2.2.1 x180.2.2.2.1 x180.2.2.2.2).bind fun x188 => (if x1.1 ≤ x188.1 then k199 x188.2.1 x188.2.2.1 x188.2.2.2.1 x188.2.2.2.2 else k195 x188.2.1 x188.2.2.1 x188.2.2.2.1 x188.2.2.2.2)))))) fun k161 => (if x146.1 = x116.1 then k161 () else (if x116.1 < 0 then k161 () else some (0, x116.2.1, x116.2.2.1, x116.2.2.2.1, x116.2.2.2.2.1, x116.2.2.2.2.2.1, x116.2.2.2.2.2.2, x146.2.1, x146.2.2.1, x146.2.2.2.1, x146.2.2.2.2.1, x146.2.2.2.2.2.1, x146.2.2.2.2.2.2))) else some (0, x116.2.1, x116.2.2.1, x116.2.2.2.1, x116.2.2.2.2.1, x116.2.2.2.2.2.1, x116.2.2.2.2.2.2, g2, bc2, bl2, td2, fi2, fa2))) fun k142 => (if 2 ≤ y7.1 then k142 0 else k142 1)) fun k132 => (if x116.1 = (-1) then k132 1 else k132 0))) fun k111 => (if x1.1 < 0 then k111 y7.2.1 y7.2.2.1 y7.2.2.2.1 y7.2.2.2.2.1 y7.2.2.2.2.2 else (f_X3_answers N size rc g fs st ln su rr cr y7.2.1 y7.2.2.1 y7.2.2.2.1 y7.2.2.2.2.1 y7.2.2.2.2.2 5).bind fun x79 => sm x79 (fun y79 => jn (fun (t0_92 : Int32) => (if y79.1 = t0_92 then jn (fun (t0_106 : Int32) => (if y7.1 = t0_106 then k111 y79.2.1 y79.2.2.1 y79.2.2.2.1 y79.2.2.2.2.1 y79.2.2.2.2.2 else some (0, g, y79.2.1, y79.2.2.1, y79.2.2.2.1, y79.2.2.2.2.1, y79.2.2.2.2.2, g2, bc2, bl2, td2, fi2, fa2))) fun k106 => (if 2 ≤ x1.1 then k106 2 else k106 x1.1) else some (0, g, y79.2.1, y79.2.2.1, y79.2.2.2.1, y79.2.2.2.2.1, y79.2.2.2.2.2, g2, bc2, bl2, td2, fi2, fa2))) fun k92 => (if 5 ≤ x1.1 then k92 5 else k92 x1.1)) (fun z79 => (none))) else some (0, g, y7.2.1, y7.2.2.1, y7.2.2.2.1, y7.2.2.2.2.1, y7.2.2.2.2.2, g2, bc2, bl2, td2, fi2, fa2))) fun k70 => (if v4_49 ≤ 4 then k70 0 else k70 1)) fun k59 => (if x1.1 = (-1) then k59 1 else k59 0)) fun k49 => f_L_areAnswersSo_L17 size g k49 18 0 0) (fun z7 => (none))
def rm_L_areAnswersSo : Room := { frames := 11, cells := 27, slots := 162, locals := 264 }
set_option maxRecDepth 100000 in
set_option maxHeartbeats 16000000 in
theorem K_L_areAnswersSo (l : Launch) (hst : l.stackTraces = false) (D : va_G) (cI cZ : ClassId) (ad bd : Nat → Nat) (sz : Nat) (N : Nat) (size rc : Int32) (g fs st ln su rr cr : Nat → Int32) (bc : Int32) (bl td fi fa : Nat → Int32) (tk gr : Int32) (se sr : Nat → Int32) (size2 rc2 : Int32) (g2 fs2 st2 ln2 su2 rr2 cr2 : Nat → Int32) (bc2 : Int32) (bl2 td2 fi2 fa2 : Nat → Int32) (tk2 gr2 : Int32) (se2 sr2 : Nat → Int32) (r : (Int32 × (Nat → Int32) × Int32 × (Nat → Int32) × (Nat → Int32) × (Nat → Int32) × (Nat → Int32) × (Nat → Int32) × Int32 × (Nat → Int32) × (Nat → Int32) × (Nat → Int32) × (Nat → Int32))) (hf : f_L_areAnswersSo N size rc g fs st ln su rr cr bc bl td fi fa size2 rc2 g2 fs2 st2 ln2 su2 rr2 cr2 bc2 bl2 td2 fi2 fa2 = some r) : Met l yL_areAnswersSo wsL_areAnswersSo rm_L_areAnswersSo (PL D cI cZ sz [.ref (ad 16), .ref (bd 16)] (wGG cI ad bd size rc g fs st ln su rr cr bc bl td fi fa tk gr se sr size2 rc2 g2 fs2 st2 ln2 su2 rr2 cr2 bc2 bl2 td2 fi2 fa2 tk2 gr2 se2 sr2)) (QI D cI cZ sz (wGG cI ad bd size rc g fs st ln su rr cr bc bl td fi fa tk gr se sr size2 rc2 g2 fs2 st2 ln2 su2 rr2 cr2 bc2 bl2 td2 fi2 fa2 tk2 gr2 se2 sr2) r.1 (wGG cI ad bd size rc r.2.1 fs st ln su rr cr r.2.2.1 r.2.2.2.1 r.2.2.2.2.1 r.2.2.2.2.2.1 r.2.2.2.2.2.2.1 tk gr se sr size2 rc2 r.2.2.2.2.2.2.2.1 fs2 st2 ln2 su2 rr2 cr2 r.2.2.2.2.2.2.2.2.1 r.2.2.2.2.2.2.2.2.2.1 r.2.2.2.2.2.2.2.2.2.2.1 r.2.2.2.2.2.2.2.2.2.2.2.1 r.2.2.2.2.2.2.2.2.2.2.2.2 tk2 gr2 se2 sr2)) 27 162 (va_A (wGG cI ad bd size rc g fs st ln su rr cr bc bl td fi fa tk gr se sr size2 rc2 g2 fs2 st2 ln2 su2 rr2 cr2 bc2 bl2 td2 fi2 fa2 tk2 gr2 se2 sr2) sz) := by
  refine mkp_z (cc := cL_areAnswersSo) (maxL := 6) (lv0 := [(0, .ref (ad 16)), (1, .ref (bd 16))]) rfl (by decide) rfl (Nat.le_of_ble_eq_true rfl) rfl ?_
  intro p e s m args below meth c ls A Q H hx hb hml hown hts hK hXS hNC hP hD hA hS hl hR
  rw [f_L_areAnswersSo] at hf
  refine lv_aload_n hx hb dL_areAnswersSo_0 rfl (lv_at hl 0 rfl) ?_
  obtain ⟨x1, hy1, hf⟩ := Option.bind_eq_some_iff.mp hf
  refine clSW_i (As := [.ref (ad 16)]) (rest := []) (wGG cI ad bd size rc g fs st ln su rr cr x1.2.1 x1.2.2.1 x1.2.2.2.1 x1.2.2.2.2 fa tk gr se sr size2 rc2 g2 fs2 st2 ln2 su2 rr2 cr2 bc2 bl2 td2 fi2 fa2 tk2 gr2 se2 sr2) ⟨hx, hb, hml, hown, hts⟩ (K_L_byAll l hst D cI cZ ad H.size N size rc g fs st ln su rr cr bc bl td fi fa tk gr se sr _ hy1) (vx_cwSW 1 hts gL_areAnswersSo_L_byAll rfl rfl rfl (by decide +kernel) ⟨Nat.le_of_ble_eq_true rfl, Nat.le_of_ble_eq_true rfl⟩) hK hXS hNC hP hD hS hA hl.1 [0, 1, 2, 3, 4, 5, 6, 7, 8, 9, 10, 11, 12, 13, 14, 15, 16] (by decide) rfl rfl rfl rfl rfl (Nat.le_of_ble_eq_true rfl) dL_areAnswersSo_1 ⟨Nat.le_of_ble_eq_true rfl, Nat.le_of_ble_eq_true rfl⟩ (fun H locs hP hD hS => ?_)
  refine lv_istore_n (lv' := [(2, .int x1.1), (0, .ref (ad 16)), (1, .ref (bd 16))]) hx hb dL_areAnswersSo_4 rfl hl (by decide) rfl (fun ls hl => ?_)
  refine lv_aload_n hx hb dL_areAnswersSo_5 rfl (lv_at hl 1 rfl) ?_
  refine lv_iconst (v := 2) hx hb dL_areAnswersSo_6 (by decide) ?_
  obtain ⟨x7, hy7, hf⟩ := Option.bind_eq_some_iff.mp hf
  refine clX_i (As := [.int 2]) (rest := []) (fun (u : Int32 × Int32 × (Nat → Int32) × (Nat → Int32) × (Nat → Int32) × (Nat → Int32)) => u.1) (fun (u : Int32 × Int32 × (Nat → Int32) × (Nat → Int32) × (Nat → Int32) × (Nat → Int32)) => wG cI ad size rc g fs st ln su rr cr u.2.1 u.2.2.1 u.2.2.2.1 u.2.2.2.2.1 u.2.2.2.2.2 tk gr se sr) (fun (u : Nat × Int32 × (Nat → Int32) × (Nat → Int32) × (Nat → Int32) × (Nat → Int32)) => u.1) (fun (u : Nat × Int32 × (Nat → Int32) × (Nat → Int32) × (Nat → Int32) × (Nat → Int32)) => wG cI ad size rc g fs st ln su rr cr u.2.1 u.2.2.1 u.2.2.2.1 u.2.2.2.2.1 u.2.2.2.2.2 tk gr se sr) (fun (u : Int32 × Int32 × (Nat → Int32) × (Nat → Int32) × (Nat → Int32) × (Nat → Int32)) => wGG cI ad bd size rc g fs st ln su rr cr u.2.1 u.2.2.1 u.2.2.2.1 u.2.2.2.2.1 u.2.2.2.2.2 tk gr se sr size2 rc2 g2 fs2 st2 ln2 su2 rr2 cr2 bc2 bl2 td2 fi2 fa2 tk2 gr2 se2 sr2) (fun (u : Nat × Int32 × (Nat → Int32) × (Nat → Int32) × (Nat → Int32) × (Nat → Int32)) => wGG cI ad bd size rc g fs st ln su rr cr u.2.1 u.2.2.1 u.2.2.2.1 u.2.2.2.2.1 u.2.2.2.2.2 tk gr se sr size2 rc2 g2 fs2 st2 ln2 su2 rr2 cr2 bc2 bl2 td2 fi2 fa2 tk2 gr2 se2 sr2) ⟨hx, hb, hml, hown, hts⟩ (K_X3_answers l hst D cI cZ ad H.size N size rc g fs st ln su rr cr x1.2.1 x1.2.2.1 x1.2.2.2.1 x1.2.2.2.2 fa tk gr se sr 2 _ hy7) (cwV 1 hts gL_areAnswersSo_X3_answers rfl rfl rfl (by decide +kernel) ⟨Nat.le_of_ble_eq_true rfl, Nat.le_of_ble_eq_true rfl⟩) hK hXS hP hD hS hA hl.1 [0, 1, 2, 3, 4, 5, 6, 7, 8, 9, 10, 11, 12, 13, 14, 15, 16] (by decide) rfl (fun _ => rfl) (fun _ => rfl) (fun _ => rfl) (fun _ => rfl) 3 16 rfl rfl rfl rfl rfl (Nat.le_of_ble_eq_true rfl) dL_areAnswersSo_7 ⟨Nat.le_of_ble_eq_true rfl, Nat.le_of_ble_eq_true rfl⟩ (fun z7 hz E ce q9 H locs hE hP hD hS hq hv hc => ?_) (fun y7 hz H locs hP hD hS => ?_)
  · rw [hz] at hf
    have hf := sm_r hf
    exact nomatch hf
  · rw [hz] at hf
    have hf := sm_l hf
    refine lv_istore_n (lv' := [(3, .int y7.1), (2, .int x1.1), (0, .ref (ad 16)), (1, .ref (bd 16))]) hx hb dL_areAnswersSo_10 rfl hl (by decide) rfl (fun ls hl => ?_)
    refine lv_iconst (v := 0) hx hb dL_areAnswersSo_11 (by decide) ?_
    refine lv_istore (lv' := [(4, .int 0), (3, .int y7.1), (2, .int x1.1), (0, .ref (ad 16)), (1, .ref (bd 16))]) hx hb dL_areAnswersSo_12 hl (by decide) rfl (fun ls hl => ?_)
    refine lv_iconst (v := 0) hx hb dL_areAnswersSo_14 (by decide) ?_
    refine lv_istore (lv' := [(5, .int 0), (4, .int 0), (3, .int y7.1), (2, .int x1.1), (0, .ref (ad 16)), (1, .ref (bd 16))]) hx hb dL_areAnswersSo_15 hl (by decide) rfl (fun ls hl => ?_)
    obtain ⟨k49, hk49, hf⟩ := jn_some hf
    have w49 : ∀ (v4_49 : Int32), k49 v4_49 = some r → ∀ (H : Heap) (locs : List Loc) (ls : Array Slot), va_P D vwCl (wGG cI ad bd size rc g fs st ln su rr cr y7.2.1 y7.2.2.1 y7.2.2.2.1 y7.2.2.2.2.1 y7.2.2.2.2.2 tk gr se sr size2 rc2 g2 fs2 st2 ln2 su2 rr2 cr2 bc2 bl2 td2 fi2 fa2 tk2 gr2 se2 sr2) H → va_D A (wGG cI ad bd size rc g fs st ln su rr cr y7.2.1 y7.2.2.1 y7.2.2.2.1 y7.2.2.2.2.1 y7.2.2.2.2.2 tk gr se sr size2 rc2 g2 fs2 st2 ln2 su2 rr2 cr2 bc2 bl2 td2 fi2 fa2 tk2 gr2 se2 sr2) → va_S A s.heap H locs → lv_has ls 6 [(0, .ref (ad 16)), (1, .ref (bd 16)), (2, .int x1.1), (3, .int y7.1), (4, .int v4_49)] → W p l e rm_L_areAnswersSo s m args below meth c H locs 20 120 Q (F0 m 49 ls []) := by
      intro v4_49 hf H locs ls hP hD hS hl
      rw [hk49] at hf
      try dsimp only at hf
      refine lv_iload_n hx hb dL_areAnswersSo_49 rfl (lv_at hl 2 rfl) ?_
      refine lv_iconst (v := (-1)) hx hb dL_areAnswersSo_50 (by decide) ?_
      obtain ⟨k59, hk59, hf⟩ := jn_some hf
      have w59 : ∀ (t0_59 : Int32), k59 t0_59 = some r → ∀ (H : Heap) (locs : List Loc) (ls : Array Slot), va_P D vwCl (wGG cI ad bd size rc g fs st ln su rr cr y7.2.1 y7.2.2.1 y7.2.2.2.1 y7.2.2.2.2.1 y7.2.2.2.2.2 tk gr se sr size2 rc2 g2 fs2 st2 ln2 su2 rr2 cr2 bc2 bl2 td2 fi2 fa2 tk2 gr2 se2 sr2) H → va_D A (wGG cI ad bd size rc g fs st ln su rr cr y7.2.1 y7.2.2.1 y7.2.2.2.1 y7.2.2.2.2.1 y7.2.2.2.2.2 tk gr se sr size2 rc2 g2 fs2 st2 ln2 su2 rr2 cr2 bc2 bl2 td2 fi2 fa2 tk2 gr2 se2 sr2) → va_S A s.heap H locs → lv_has ls 6 [(0, .ref (ad 16)), (1, .ref (bd 16)), (2, .int x1.1), (3, .int y7.1), (4, .int v4_49)] → W p l e rm_L_areAnswersSo s m args below meth c H locs 20 120 Q (F0 m 59 ls [.int t0_59]) := by
        intro t0_59 hf H locs ls hP hD hS hl
        rw [hk59] at hf
        try dsimp only at hf
        refine lv_iload hx hb dL_areAnswersSo_59 (lv_at hl 4 rfl) ?_
        refine lv_iconst (v := 4) hx hb dL_areAnswersSo_61 (by decide) ?_
        obtain ⟨k70, hk70, hf⟩ := jn_some hf
        have w70 : ∀ (t0_70 : Int32), k70 t0_70 = some r → ∀ (H : Heap) (locs : List Loc) (ls : Array Slot), va_P D vwCl (wGG cI ad bd size rc g fs st ln su rr cr y7.2.1 y7.2.2.1 y7.2.2.2.1 y7.2.2.2.2.1 y7.2.2.2.2.2 tk gr se sr size2 rc2 g2 fs2 st2 ln2 su2 rr2 cr2 bc2 bl2 td2 fi2 fa2 tk2 gr2 se2 sr2) H → va_D A (wGG cI ad bd size rc g fs st ln su rr cr y7.2.1 y7.2.2.1 y7.2.2.2.1 y7.2.2.2.2.1 y7.2.2.2.2.2 tk gr se sr size2 rc2 g2 fs2 st2 ln2 su2 rr2 cr2 bc2 bl2 td2 fi2 fa2 tk2 gr2 se2 sr2) → va_S A s.heap H locs → lv_has ls 6 [(0, .ref (ad 16)), (1, .ref (bd 16)), (2, .int x1.1), (3, .int y7.1)] → W p l e rm_L_areAnswersSo s m args below meth c H locs 20 120 Q (F0 m 70 ls [.int t0_70, .int t0_59]) := by
          intro t0_70 hf H locs ls hP hD hS hl
          rw [hk70] at hf
          try dsimp only at hf
          refine lv_icmp_ne (tgt := 109) hx hb dL_areAnswersSo_70 (by decide) (fun c_70 => ?_) (fun c_70 => ?_)
          · have hf := ite_f c_70 hf
            refine lv_iconst (v := 0) hx hb dL_areAnswersSo_109 (by decide) ?_
            cases hf
            exact hR _ _ _ _ _ _ _ _ (by decide) rfl rfl hP hD hS (Nat.le_of_ble_eq_true rfl) (Nat.le_of_ble_eq_true rfl) dL_areAnswersSo_110
          · have hf := ite_t c_70 hf
            refine lv_iload_n hx hb dL_areAnswersSo_73 rfl (lv_at hl 2 rfl) ?_
            obtain ⟨k111, hk111, hf⟩ := jn_some hf
            have w111 : ∀ (bc_111 : Int32) (bl_111 : Nat → Int32) (td_111 : Nat → Int32) (fi_111 : Nat → Int32) (fa_111 : Nat → Int32), k111 bc_111 bl_111 td_111 fi_111 fa_111 = some r → ∀ (H : Heap) (locs : List Loc) (ls : Array Slot), va_P D vwCl (wGG cI ad bd size rc g fs st ln su rr cr bc_111 bl_111 td_111 fi_111 fa_111 tk gr se sr size2 rc2 g2 fs2 st2 ln2 su2 rr2 cr2 bc2 bl2 td2 fi2 fa2 tk2 gr2 se2 sr2) H → va_D A (wGG cI ad bd size rc g fs st ln su rr cr bc_111 bl_111 td_111 fi_111 fa_111 tk gr se sr size2 rc2 g2 fs2 st2 ln2 su2 rr2 cr2 bc2 bl2 td2 fi2 fa2 tk2 gr2 se2 sr2) → va_S A s.heap H locs → lv_has ls 6 [(0, .ref (ad 16)), (1, .ref (bd 16)), (2, .int x1.1), (3, .int y7.1)] → W p l e rm_L_areAnswersSo s m args below meth c H locs 21 126 Q (F0 m 111 ls []) := by
              intro bc_111 bl_111 td_111 fi_111 fa_111 hf H locs ls hP hD hS hl
              rw [hk111] at hf
              try dsimp only at hf
              refine lv_iload_n hx hb dL_areAnswersSo_111 rfl (lv_at hl 3 rfl) ?_
              refine lv_if_lt (tgt := 201) hx hb dL_areAnswersSo_112 (by decide) (fun c_112 => ?_) (fun c_112 => ?_)
              · have hf := ite_t c_112 hf
                refine lv_aload_n hx hb dL_areAnswersSo_201 rfl (lv_at hl 0 rfl) ?_
                obtain ⟨x202, hy202, hf⟩ := Option.bind_eq_some_iff.mp hf
                refine clSW_i (As := [.ref (ad 16)]) (rest := []) (wGG cI ad bd size rc x202.2.1 fs st ln su rr cr x202.2.2.1 x202.2.2.2.1 x202.2.2.2.2.1 x202.2.2.2.2.2.1 x202.2.2.2.2.2.2 tk gr se sr size2 rc2 g2 fs2 st2 ln2 su2 rr2 cr2 bc2 bl2 td2 fi2 fa2 tk2 gr2 se2 sr2) ⟨hx, hb, hml, hown, hts⟩ (K_L_mend l hst D cI cZ ad H.size N size rc g fs st ln su rr cr bc_111 bl_111 td_111 fi_111 fa_111 tk gr se sr _ hy202) (vx_cwSW 1 hts gL_areAnswersSo_L_mend rfl rfl rfl (by decide +kernel) ⟨Nat.le_of_ble_eq_true rfl, Nat.le_of_ble_eq_true rfl⟩) hK hXS hNC hP hD hS hA hl.1 [0, 1, 2, 3, 4, 5, 6, 7, 8, 9, 10, 11, 12, 13, 14, 15, 16] (by decide) rfl rfl rfl rfl rfl (Nat.le_of_ble_eq_true rfl) dL_areAnswersSo_202 ⟨Nat.le_of_ble_eq_true rfl, Nat.le_of_ble_eq_true rfl⟩ (fun H locs hP hD hS => ?_)
                refine lv_ldc (v := (-99999)) hx hb hown (hts (.constant RL 16 (-99999)) (by decide +kernel)) dL_areAnswersSo_205 ?_
                refine lv_icmp_ne (tgt := 214) hx hb dL_areAnswersSo_207 (by decide) (fun c_207 => ?_) (fun c_207 => ?_)
                · have hf := ite_f c_207 hf
                  refine lv_iconst (v := 0) hx hb dL_areAnswersSo_214 (by decide) ?_
                  cases hf
                  exact hR _ _ _ _ _ _ _ _ (by decide) rfl rfl hP hD hS (Nat.le_of_ble_eq_true rfl) (Nat.le_of_ble_eq_true rfl) dL_areAnswersSo_215
                · have hf := ite_t c_207 hf
                  refine lv_iconst (v := 1) hx hb dL_areAnswersSo_210 (by decide) ?_
                  refine lv_goto (tgt := 215) hx hb dL_areAnswersSo_211 (by decide) ?_
                  cases hf
                  exact hR _ _ _ _ _ _ _ _ (by decide) rfl rfl hP hD hS (Nat.le_of_ble_eq_true rfl) (Nat.le_of_ble_eq_true rfl) dL_areAnswersSo_215
              · have hf := ite_f c_112 hf
                refine lv_aload_n hx hb dL_areAnswersSo_115 rfl (lv_at hl 0 rfl) ?_
                obtain ⟨x116, hy116, hf⟩ := Option.bind_eq_some_iff.mp hf
                refine clSW_i (As := [.ref (ad 16)]) (rest := []) (wGG cI ad bd size rc x116.2.1 fs st ln su rr cr x116.2.2.1 x116.2.2.2.1 x116.2.2.2.2.1 x116.2.2.2.2.2.1 x116.2.2.2.2.2.2 tk gr se sr size2 rc2 g2 fs2 st2 ln2 su2 rr2 cr2 bc2 bl2 td2 fi2 fa2 tk2 gr2 se2 sr2) ⟨hx, hb, hml, hown, hts⟩ (K_L_mend l hst D cI cZ ad H.size N size rc g fs st ln su rr cr bc_111 bl_111 td_111 fi_111 fa_111 tk gr se sr _ hy116) (vx_cwSW 1 hts gL_areAnswersSo_L_mend rfl rfl rfl (by decide +kernel) ⟨Nat.le_of_ble_eq_true rfl, Nat.le_of_ble_eq_true rfl⟩) hK hXS hNC hP hD hS hA hl.1 [0, 1, 2, 3, 4, 5, 6, 7, 8, 9, 10, 11, 12, 13, 14, 15, 16] (by decide) rfl rfl rfl rfl rfl (Nat.le_of_ble_eq_true rfl) dL_areAnswersSo_116 ⟨Nat.le_of_ble_eq_true rfl, Nat.le_of_ble_eq_true rfl⟩ (fun H locs hP hD hS => ?_)
                refine lv_istore (lv' := [(5, .int x116.1), (0, .ref (ad 16)), (1, .ref (bd 16)), (2, .int x1.1), (3, .int y7.1)]) hx hb dL_areAnswersSo_119 hl (by decide) rfl (fun ls hl => ?_)
                refine lv_iload hx hb dL_areAnswersSo_121 (lv_at hl 0 rfl) ?_
                refine lv_iconst (v := (-1)) hx hb dL_areAnswersSo_123 (by decide) ?_
                obtain ⟨k132, hk132, hf⟩ := jn_some hf
                have w132 : ∀ (t0_132 : Int32), k132 t0_132 = some r → ∀ (H : Heap) (locs : List Loc) (ls : Array Slot), va_P D vwCl (wGG cI ad bd size rc x116.2.1 fs st ln su rr cr x116.2.2.1 x116.2.2.2.1 x116.2.2.2.2.1 x116.2.2.2.2.2.1 x116.2.2.2.2.2.2 tk gr se sr size2 rc2 g2 fs2 st2 ln2 su2 rr2 cr2 bc2 bl2 td2 fi2 fa2 tk2 gr2 se2 sr2) H → va_D A (wGG cI ad bd size rc x116.2.1 fs st ln su rr cr x116.2.2.1 x116.2.2.2.1 x116.2.2.2.2.1 x116.2.2.2.2.2.1 x116.2.2.2.2.2.2 tk gr se sr size2 rc2 g2 fs2 st2 ln2 su2 rr2 cr2 bc2 bl2 td2 fi2 fa2 tk2 gr2 se2 sr2) → va_S A s.heap H locs → lv_has ls 6 [(0, .ref (ad 16)), (1, .ref (bd 16)), (2, .int x1.1), (3, .int y7.1), (5, .int x116.1)] → W p l e rm_L_areAnswersSo s m args below meth c H locs 22 132 Q (F0 m 132 ls [.int t0_132]) := by
                  intro t0_132 hf H locs ls hP hD hS hl
                  rw [hk132] at hf
                  try dsimp only at hf
                  refine lv_iload_n hx hb dL_areAnswersSo_132 rfl (lv_at hl 3 rfl) ?_
                  refine lv_iconst (v := 2) hx hb dL_areAnswersSo_133 (by decide) ?_
                  obtain ⟨k142, hk142, hf⟩ := jn_some hf
                  have w142 : ∀ (t0_142 : Int32), k142 t0_142 = some r → ∀ (H : Heap) (locs : List Loc) (ls : Array Slot), va_P D vwCl (wGG cI ad bd size rc x116.2.1 fs st ln su rr cr x116.2.2.1 x116.2.2.2.1 x116.2.2.2.2.1 x116.2.2.2.2.2.1 x116.2.2.2.2.2.2 tk gr se sr size2 rc2 g2 fs2 st2 ln2 su2 rr2 cr2 bc2 bl2 td2 fi2 fa2 tk2 gr2 se2 sr2) H → va_D A (wGG cI ad bd size rc x116.2.1 fs st ln su rr cr x116.2.2.1 x116.2.2.2.1 x116.2.2.2.2.1 x116.2.2.2.2.2.1 x116.2.2.2.2.2.2 tk gr se sr size2 rc2 g2 fs2 st2 ln2 su2 rr2 cr2 bc2 bl2 td2 fi2 fa2 tk2 gr2 se2 sr2) → va_S A s.heap H locs → lv_has ls 6 [(0, .ref (ad 16)), (1, .ref (bd 16)), (2, .int x1.1), (3, .int y7.1), (5, .int x116.1)] → W p l e rm_L_areAnswersSo s m args below meth c H locs 22 132 Q (F0 m 142 ls [.int t0_142, .int t0_132]) := by
                    intro t0_142 hf H locs ls hP hD hS hl
                    rw [hk142] at hf
                    try dsimp only at hf
                    refine lv_icmp_ne (tgt := 159) hx hb dL_areAnswersSo_142 (by decide) (fun c_142 => ?_) (fun c_142 => ?_)
                    · have hf := ite_f c_142 hf
                      refine lv_iconst (v := 0) hx hb dL_areAnswersSo_159 (by decide) ?_
                      cases hf
                      exact hR _ _ _ _ _ _ _ _ (by decide) rfl rfl hP hD hS (Nat.le_of_ble_eq_true rfl) (Nat.le_of_ble_eq_true rfl) dL_areAnswersSo_160
                    · have hf := ite_t c_142 hf
                      refine lv_aload_n hx hb dL_areAnswersSo_145 rfl (lv_at hl 1 rfl) ?_
                      obtain ⟨x146, hy146, hf⟩ := Option.bind_eq_some_iff.mp hf
                      refine clSW_i (As := [.ref (bd 16)]) (rest := []) (wGG cI ad bd size rc x116.2.1 fs st ln su rr cr x116.2.2.1 x116.2.2.2.1 x116.2.2.2.2.1 x116.2.2.2.2.2.1 x116.2.2.2.2.2.2 tk gr se sr size2 rc2 x146.2.1 fs2 st2 ln2 su2 rr2 cr2 x146.2.2.1 x146.2.2.2.1 x146.2.2.2.2.1 x146.2.2.2.2.2.1 x146.2.2.2.2.2.2 tk2 gr2 se2 sr2) ⟨hx, hb, hml, hown, hts⟩ (K_L_mend l hst D cI cZ bd H.size N size2 rc2 g2 fs2 st2 ln2 su2 rr2 cr2 bc2 bl2 td2 fi2 fa2 tk2 gr2 se2 sr2 _ hy146) (vx_cwSW 1 hts gL_areAnswersSo_L_mend rfl rfl rfl (by decide +kernel) ⟨Nat.le_of_ble_eq_true rfl, Nat.le_of_ble_eq_true rfl⟩) hK hXS hNC hP hD hS hA hl.1 [17, 18, 19, 20, 21, 22, 23, 24, 25, 26, 27, 28, 29, 30, 31, 32, 33] (by decide) rfl rfl rfl rfl rfl (Nat.le_of_ble_eq_true rfl) dL_areAnswersSo_146 ⟨Nat.le_of_ble_eq_true rfl, Nat.le_of_ble_eq_true rfl⟩ (fun H locs hP hD hS => ?_)
                      refine lv_iload hx hb dL_areAnswersSo_149 (lv_at hl 4 rfl) ?_
                      obtain ⟨k161, hk161, hf⟩ := jn_some hf
                      have w161 : ∀ (_ : Unit), k161 () = some r → ∀ (H : Heap) (locs : List Loc) (ls : Array Slot), va_P D vwCl (wGG cI ad bd size rc x116.2.1 fs st ln su rr cr x116.2.2.1 x116.2.2.2.1 x116.2.2.2.2.1 x116.2.2.2.2.2.1 x116.2.2.2.2.2.2 tk gr se sr size2 rc2 x146.2.1 fs2 st2 ln2 su2 rr2 cr2 x146.2.2.1 x146.2.2.2.1 x146.2.2.2.2.1 x146.2.2.2.2.2.1 x146.2.2.2.2.2.2 tk2 gr2 se2 sr2) H → va_D A (wGG cI ad bd size rc x116.2.1 fs st ln su rr cr x116.2.2.1 x116.2.2.2.1 x116.2.2.2.2.1 x116.2.2.2.2.2.1 x116.2.2.2.2.2.2 tk gr se sr size2 rc2 x146.2.1 fs2 st2 ln2 su2 rr2 cr2 x146.2.2.1 x146.2.2.2.1 x146.2.2.2.2.1 x146.2.2.2.2.2.1 x146.2.2.2.2.2.2 tk2 gr2 se2 sr2) → va_S A s.heap H locs → lv_has ls 6 [(0, .ref (ad 16)), (2, .int x1.1), (3, .int y7.1), (5, .int x116.1)] → W p l e rm_L_areAnswersSo s m args below meth c H locs 23 138 Q (F0 m 161 ls []) := by
                        intro _ hf H locs ls hP hD hS hl
                        rw [hk161] at hf
                        try dsimp only at hf
                        refine lv_iload_n hx hb dL_areAnswersSo_161 rfl (lv_at hl 2 rfl) ?_
                        refine lv_iconst (v := 2) hx hb dL_areAnswersSo_162 (by decide) ?_
                        obtain ⟨k195, hk195, hf⟩ := jn_some hf
                        have w195 : ∀ (bc_195 : Int32) (bl_195 : Nat → Int32) (td_195 : Nat → Int32) (fi_195 : Nat → Int32), k195 bc_195 bl_195 td_195 fi_195 = some r → ∀ (H : Heap) (locs : List Loc) (ls : Array Slot), va_P D vwCl (wGG cI ad bd size rc x116.2.1 fs st ln su rr cr bc_195 bl_195 td_195 fi_195 x116.2.2.2.2.2.2 tk gr se sr size2 rc2 x146.2.1 fs2 st2 ln2 su2 rr2 cr2 x146.2.2.1 x146.2.2.2.1 x146.2.2.2.2.1 x146.2.2.2.2.2.1 x146.2.2.2.2.2.2 tk2 gr2 se2 sr2) H → va_D A (wGG cI ad bd size rc x116.2.1 fs st ln su rr cr bc_195 bl_195 td_195 fi_195 x116.2.2.2.2.2.2 tk gr se sr size2 rc2 x146.2.1 fs2 st2 ln2 su2 rr2 cr2 x146.2.2.1 x146.2.2.2.1 x146.2.2.2.2.1 x146.2.2.2.2.2.1 x146.2.2.2.2.2.2 tk2 gr2 se2 sr2) → va_S A s.heap H locs → lv_has ls 6 [] → W p l e rm_L_areAnswersSo s m args below meth c H locs 26 156 Q (F0 m 195 ls []) := by
                          intro bc_195 bl_195 td_195 fi_195 hf H locs ls hP hD hS hl
                          rw [hk195] at hf
                          try dsimp only at hf
                          refine lv_iconst (v := 1) hx hb dL_areAnswersSo_195 (by decide) ?_
                          refine lv_goto (tgt := 200) hx hb dL_areAnswersSo_196 (by decide) ?_
                          cases hf
                          exact hR _ _ _ _ _ _ _ _ (by decide) rfl rfl hP hD hS (Nat.le_of_ble_eq_true rfl) (Nat.le_of_ble_eq_true rfl) dL_areAnswersSo_200
                        refine lv_icmp_lt (tgt := 195) hx hb dL_areAnswersSo_163 (by decide) (fun c_163 => ?_) (fun c_163 => ?_)
                        · have hf := ite_t c_163 hf
                          refine W.widen (k := 26) (n := 156) (Nat.le_of_ble_eq_true rfl) (Nat.le_of_ble_eq_true rfl) ?_
                          exact w195 x116.2.2.1 x116.2.2.2.1 x116.2.2.2.2.1 x116.2.2.2.2.2.1 hf _ _ _ hP hD hS (lv_sub hl [] rfl)
                        · have hf := ite_f c_163 hf
                          refine lv_aload_n hx hb dL_areAnswersSo_166 rfl (lv_at hl 0 rfl) ?_
                          refine lv_iload hx hb dL_areAnswersSo_167 (lv_at hl 3 rfl) ?_
                          obtain ⟨x169, hy169, hf⟩ := Option.bind_eq_some_iff.mp hf
                          refine clSW_i (As := [.ref (ad 16), .int x116.1]) (rest := []) (wGG cI ad bd size rc x116.2.1 fs st ln su rr cr x116.2.2.1 x116.2.2.2.1 x116.2.2.2.2.1 x116.2.2.2.2.2.1 x116.2.2.2.2.2.2 tk gr se sr size2 rc2 x146.2.1 fs2 st2 ln2 su2 rr2 cr2 x146.2.2.1 x146.2.2.2.1 x146.2.2.2.2.1 x146.2.2.2.2.2.1 x146.2.2.2.2.2.2 tk2 gr2 se2 sr2) ⟨hx, hb, hml, hown, hts⟩ (K_L_digit l hst D cI cZ ad H.size size rc x116.2.1 fs st ln su rr cr x116.2.2.1 x116.2.2.2.1 x116.2.2.2.2.1 x116.2.2.2.2.2.1 x116.2.2.2.2.2.2 tk gr se sr x116.1 _ hy169) (vx_cwSW 2 hts gL_areAnswersSo_L_digit rfl rfl rfl (by decide +kernel) ⟨Nat.le_of_ble_eq_true rfl, Nat.le_of_ble_eq_true rfl⟩) hK hXS hNC hP hD hS hA hl.1 [0, 1, 2, 3, 4, 5, 6, 7, 8, 9, 10, 11, 12, 13, 14, 15, 16] (by decide) rfl rfl rfl rfl rfl (Nat.le_of_ble_eq_true rfl) dL_areAnswersSo_169 ⟨Nat.le_of_ble_eq_true rfl, Nat.le_of_ble_eq_true rfl⟩ (fun H locs hP hD hS => ?_)
                          obtain ⟨k199, hk199, hf⟩ := jn_some hf
                          have w199 : ∀ (bc_199 : Int32) (bl_199 : Nat → Int32) (td_199 : Nat → Int32) (fi_199 : Nat → Int32), k199 bc_199 bl_199 td_199 fi_199 = some r → ∀ (H : Heap) (locs : List Loc) (ls : Array Slot), va_P D vwCl (wGG cI ad bd size rc x116.2.1 fs st ln su rr cr bc_199 bl_199 td_199 fi_199 x116.2.2.2.2.2.2 tk gr se sr size2 rc2 x146.2.1 fs2 st2 ln2 su2 rr2 cr2 x146.2.2.1 x146.2.2.2.1 x146.2.2.2.2.1 x146.2.2.2.2.2.1 x146.2.2.2.2.2.2 tk2 gr2 se2 sr2) H → va_D A (wGG cI ad bd size rc x116.2.1 fs st ln su rr cr bc_199 bl_199 td_199 fi_199 x116.2.2.2.2.2.2 tk gr se sr size2 rc2 x146.2.1 fs2 st2 ln2 su2 rr2 cr2 x146.2.2.1 x146.2.2.2.1 x146.2.2.2.2.1 x146.2.2.2.2.2.1 x146.2.2.2.2.2.2 tk2 gr2 se2 sr2) → va_S A s.heap H locs → lv_has ls 6 [] → W p l e rm_L_areAnswersSo s m args below meth c H locs 26 156 Q (F0 m 199 ls []) := by
                            intro bc_199 bl_199 td_199 fi_199 hf H locs ls hP hD hS hl
                            rw [hk199] at hf
                            try dsimp only at hf
                            refine lv_iconst (v := 0) hx hb dL_areAnswersSo_199 (by decide) ?_
                            cases hf
                            exact hR _ _ _ _ _ _ _ _ (by decide) rfl rfl hP hD hS (Nat.le_of_ble_eq_true rfl) (Nat.le_of_ble_eq_true rfl) dL_areAnswersSo_200
                          refine lv_if_le (tgt := 199) hx hb dL_areAnswersSo_172 (by decide) (fun c_172 => ?_) (fun c_172 => ?_)
                          · have hf := ite_t c_172 hf
                            refine W.widen (k := 26) (n := 156) (Nat.le_of_ble_eq_true rfl) (Nat.le_of_ble_eq_true rfl) ?_
                            exact w199 x116.2.2.1 x116.2.2.2.1 x116.2.2.2.2.1 x116.2.2.2.2.2.1 hf _ _ _ hP hD hS (lv_sub hl [] rfl)
                          · have hf := ite_f c_172 hf
                            refine lv_iload_n hx hb dL_areAnswersSo_175 rfl (lv_at hl 1 rfl) ?_
                            refine lv_if_lt (tgt := 195) hx hb dL_areAnswersSo_176 (by decide) (fun c_176 => ?_) (fun c_176 => ?_)
                            · have hf := ite_t c_176 hf
                              refine W.widen (k := 26) (n := 156) (Nat.le_of_ble_eq_true rfl) (Nat.le_of_ble_eq_true rfl) ?_
                              exact w195 x116.2.2.1 x116.2.2.2.1 x116.2.2.2.2.1 x116.2.2.2.2.2.1 hf _ _ _ hP hD hS (lv_sub hl [] rfl)
                            · have hf := ite_f c_176 hf
                              refine lv_aload_n hx hb dL_areAnswersSo_179 rfl (lv_at hl 0 rfl) ?_
                              obtain ⟨x180, hy180, hf⟩ := Option.bind_eq_some_iff.mp hf
                              refine clSW_i (As := [.ref (ad 16)]) (rest := []) (wGG cI ad bd size rc x116.2.1 fs st ln su rr cr x180.2.1 x180.2.2.1 x180.2.2.2.1 x180.2.2.2.2 x116.2.2.2.2.2.2 tk gr se sr size2 rc2 x146.2.1 fs2 st2 ln2 su2 rr2 cr2 x146.2.2.1 x146.2.2.2.1 x146.2.2.2.2.1 x146.2.2.2.2.2.1 x146.2.2.2.2.2.2 tk2 gr2 se2 sr2) ⟨hx, hb, hml, hown, hts⟩ (K_L_byAll l hst D cI cZ ad H.size N size rc x116.2.1 fs st ln su rr cr x116.2.2.1 x116.2.2.2.1 x116.2.2.2.2.1 x116.2.2.2.2.2.1 x116.2.2.2.2.2.2 tk gr se sr _ hy180) (vx_cwSW 1 hts gL_areAnswersSo_L_byAll rfl rfl rfl (by decide +kernel) ⟨Nat.le_of_ble_eq_true rfl, Nat.le_of_ble_eq_true rfl⟩) hK hXS hNC hP hD hS hA hl.1 [0, 1, 2, 3, 4, 5, 6, 7, 8, 9, 10, 11, 12, 13, 14, 15, 16] (by decide) rfl rfl rfl rfl rfl (Nat.le_of_ble_eq_true rfl) dL_areAnswersSo_180 ⟨Nat.le_of_ble_eq_true rfl, Nat.le_of_ble_eq_true rfl⟩ (fun H locs hP hD hS => ?_)
                              refine lv_iconst (v := 1) hx hb dL_areAnswersSo_183 (by decide) ?_
                              refine lv_icmp_lt (tgt := 199) hx hb dL_areAnswersSo_184 (by decide) (fun c_184 => ?_) (fun c_184 => ?_)
                              · have hf := ite_t c_184 hf
                                refine W.widen (k := 26) (n := 156) (Nat.le_of_ble_eq_true rfl) (Nat.le_of_ble_eq_true rfl) ?_
                                exact w199 x180.2.1 x180.2.2.1 x180.2.2.2.1 x180.2.2.2.2 hf _ _ _ hP hD hS (lv_sub hl [] rfl)
                              · have hf := ite_f c_184 hf
                                refine lv_aload_n hx hb dL_areAnswersSo_187 rfl (lv_at hl 0 rfl) ?_
                                obtain ⟨x188, hy188, hf⟩ := Option.bind_eq_some_iff.mp hf
                                refine clSW_i (As := [.ref (ad 16)]) (rest := []) (wGG cI ad bd size rc x116.2.1 fs st ln su rr cr x188.2.1 x188.2.2.1 x188.2.2.2.1 x188.2.2.2.2 x116.2.2.2.2.2.2 tk gr se sr size2 rc2 x146.2.1 fs2 st2 ln2 su2 rr2 cr2 x146.2.2.1 x146.2.2.2.1 x146.2.2.2.2.1 x146.2.2.2.2.2.1 x146.2.2.2.2.2.2 tk2 gr2 se2 sr2) ⟨hx, hb, hml, hown, hts⟩ (K_L_byAll l hst D cI cZ ad H.size N size rc x116.2.1 fs st ln su rr cr x180.2.1 x180.2.2.1 x180.2.2.2.1 x180.2.2.2.2 x116.2.2.2.2.2.2 tk gr se sr _ hy188) (vx_cwSW 1 hts gL_areAnswersSo_L_byAll rfl rfl rfl (by decide +kernel) ⟨Nat.le_of_ble_eq_true rfl, Nat.le_of_ble_eq_true rfl⟩) hK hXS hNC hP hD hS hA hl.1 [0, 1, 2, 3, 4, 5, 6, 7, 8, 9, 10, 11, 12, 13, 14, 15, 16] (by decide) rfl rfl rfl rfl rfl (Nat.le_of_ble_eq_true rfl) dL_areAnswersSo_188 ⟨Nat.le_of_ble_eq_true rfl, Nat.le_of_ble_eq_true rfl⟩ (fun H locs hP hD hS => ?_)
                                refine lv_iload_n hx hb dL_areAnswersSo_191 rfl (lv_at hl 1 rfl) ?_
                                refine lv_icmp_ge (tgt := 199) hx hb dL_areAnswersSo_192 (by decide) (fun c_192 => ?_) (fun c_192 => ?_)
                                · have hf := ite_t c_192 hf
                                  exact w199 x188.2.1 x188.2.2.1 x188.2.2.2.1 x188.2.2.2.2 hf _ _ _ hP hD hS (lv_sub hl [] rfl)
                                · have hf := ite_f c_192 hf
                                  exact w195 x188.2.1 x188.2.2.1 x188.2.2.2.1 x188.2.2.2.2 hf _ _ _ hP hD hS (lv_sub hl [] rfl)
                      refine lv_icmp_eq (tgt := 161) hx hb dL_areAnswersSo_151 (by decide) (fun c_151 => ?_) (fun c_151 => ?_)
                      · have hf := ite_t c_151 hf
                        exact w161 () hf _ _ _ hP hD hS (lv_sub hl [0, 2, 3, 4] rfl)
                      · have hf := ite_f c_151 hf
                        refine lv_iload hx hb dL_areAnswersSo_154 (lv_at hl 4 rfl) ?_
                        refine lv_if_lt (tgt := 161) hx hb dL_areAnswersSo_156 (by decide) (fun c_156 => ?_) (fun c_156 => ?_)
                        · have hf := ite_t c_156 hf
                          exact w161 () hf _ _ _ hP hD hS (lv_sub hl [0, 2, 3, 4] rfl)
                        · have hf := ite_f c_156 hf
                          refine lv_iconst (v := 0) hx hb dL_areAnswersSo_159 (by decide) ?_
                          cases hf
                          exact hR _ _ _ _ _ _ _ _ (by decide) rfl rfl hP hD hS (Nat.le_of_ble_eq_true rfl) (Nat.le_of_ble_eq_true rfl) dL_areAnswersSo_160
                  refine lv_icmp_ge (tgt := 141) hx hb dL_areAnswersSo_134 (by decide) (fun c_134 => ?_) (fun c_134 => ?_)
                  · have hf := ite_t c_134 hf
                    refine lv_iconst (v := 0) hx hb dL_areAnswersSo_141 (by decide) ?_
                    exact w142 0 hf _ _ _ hP hD hS (lv_sub hl [0, 1, 2, 3, 4] rfl)
                  · have hf := ite_f c_134 hf
                    refine lv_iconst (v := 1) hx hb dL_areAnswersSo_137 (by decide) ?_
                    refine lv_goto (tgt := 142) hx hb dL_areAnswersSo_138 (by decide) ?_
                    exact w142 1 hf _ _ _ hP hD hS (lv_sub hl [0, 1, 2, 3, 4] rfl)
                refine lv_icmp_ne (tgt := 131) hx hb dL_areAnswersSo_124 (by decide) (fun c_124 => ?_) (fun c_124 => ?_)
                · have hf := ite_f c_124 hf
                  refine lv_iconst (v := 0) hx hb dL_areAnswersSo_131 (by decide) ?_
                  exact w132 0 hf _ _ _ hP hD hS (lv_sub hl [1, 2, 3, 4, 0] rfl)
                · have hf := ite_t c_124 hf
                  refine lv_iconst (v := 1) hx hb dL_areAnswersSo_127 (by decide) ?_
                  refine lv_goto (tgt := 132) hx hb dL_areAnswersSo_128 (by decide) ?_
                  exact w132 1 hf _ _ _ hP hD hS (lv_sub hl [1, 2, 3, 4, 0] rfl)
            refine lv_if_lt (tgt := 111) hx hb dL_areAnswersSo_74 (by decide) (fun c_74 => ?_) (fun c_74 => ?_)
            · have hf := ite_t c_74 hf
              refine W.widen (k := 21) (n := 126) (Nat.le_of_ble_eq_true rfl) (Nat.le_of_ble_eq_true rfl) ?_
              exact w111 y7.2.1 y7.2.2.1 y7.2.2.2.1 y7.2.2.2.2.1 y7.2.2.2.2.2 hf _ _ _ hP hD hS (lv_sub hl [0, 1, 2, 3] rfl)
            · have hf := ite_f c_74 hf
              refine lv_aload_n hx hb dL_areAnswersSo_77 rfl (lv_at hl 0 rfl) ?_
              refine lv_iconst (v := 5) hx hb dL_areAnswersSo_78 (by decide) ?_
              obtain ⟨x79, hy79, hf⟩ := Option.bind_eq_some_iff.mp hf
              refine clX_i (As := [.int 5]) (rest := []) (fun (u : Int32 × Int32 × (Nat → Int32) × (Nat → Int32) × (Nat → Int32) × (Nat → Int32)) => u.1) (fun (u : Int32 × Int32 × (Nat → Int32) × (Nat → Int32) × (Nat → Int32) × (Nat → Int32)) => wG cI ad size rc g fs st ln su rr cr u.2.1 u.2.2.1 u.2.2.2.1 u.2.2.2.2.1 u.2.2.2.2.2 tk gr se sr) (fun (u : Nat × Int32 × (Nat → Int32) × (Nat → Int32) × (Nat → Int32) × (Nat → Int32)) => u.1) (fun (u : Nat × Int32 × (Nat → Int32) × (Nat → Int32) × (Nat → Int32) × (Nat → Int32)) => wG cI ad size rc g fs st ln su rr cr u.2.1 u.2.2.1 u.2.2.2.1 u.2.2.2.2.1 u.2.2.2.2.2 tk gr se sr) (fun (u : Int32 × Int32 × (Nat → Int32) × (Nat → Int32) × (Nat → Int32) × (Nat → Int32)) => wGG cI ad bd size rc g fs st ln su rr cr u.2.1 u.2.2.1 u.2.2.2.1 u.2.2.2.2.1 u.2.2.2.2.2 tk gr se sr size2 rc2 g2 fs2 st2 ln2 su2 rr2 cr2 bc2 bl2 td2 fi2 fa2 tk2 gr2 se2 sr2) (fun (u : Nat × Int32 × (Nat → Int32) × (Nat → Int32) × (Nat → Int32) × (Nat → Int32)) => wGG cI ad bd size rc g fs st ln su rr cr u.2.1 u.2.2.1 u.2.2.2.1 u.2.2.2.2.1 u.2.2.2.2.2 tk gr se sr size2 rc2 g2 fs2 st2 ln2 su2 rr2 cr2 bc2 bl2 td2 fi2 fa2 tk2 gr2 se2 sr2) ⟨hx, hb, hml, hown, hts⟩ (K_X3_answers l hst D cI cZ ad H.size N size rc g fs st ln su rr cr y7.2.1 y7.2.2.1 y7.2.2.2.1 y7.2.2.2.2.1 y7.2.2.2.2.2 tk gr se sr 5 _ hy79) (cwV 1 hts gL_areAnswersSo_X3_answers rfl rfl rfl (by decide +kernel) ⟨Nat.le_of_ble_eq_true rfl, Nat.le_of_ble_eq_true rfl⟩) hK hXS hP hD hS hA hl.1 [0, 1, 2, 3, 4, 5, 6, 7, 8, 9, 10, 11, 12, 13, 14, 15, 16] (by decide) rfl (fun _ => rfl) (fun _ => rfl) (fun _ => rfl) (fun _ => rfl) 3 16 rfl rfl rfl rfl rfl (Nat.le_of_ble_eq_true rfl) dL_areAnswersSo_79 ⟨Nat.le_of_ble_eq_true rfl, Nat.le_of_ble_eq_true rfl⟩ (fun z79 hz E ce q9 H locs hE hP hD hS hq hv hc => ?_) (fun y79 hz H locs hP hD hS => ?_)
              · rw [hz] at hf
                have hf := sm_r hf
                exact nomatch hf
              · rw [hz] at hf
                have hf := sm_l hf
                refine lv_iload_n hx hb dL_areAnswersSo_82 rfl (lv_at hl 2 rfl) ?_
                refine lv_iconst (v := 5) hx hb dL_areAnswersSo_83 (by decide) ?_
                obtain ⟨k92, hk92, hf⟩ := jn_some hf
                have w92 : ∀ (t0_92 : Int32), k92 t0_92 = some r → ∀ (H : Heap) (locs : List Loc) (ls : Array Slot), va_P D vwCl (wGG cI ad bd size rc g fs st ln su rr cr y79.2.1 y79.2.2.1 y79.2.2.2.1 y79.2.2.2.2.1 y79.2.2.2.2.2 tk gr se sr size2 rc2 g2 fs2 st2 ln2 su2 rr2 cr2 bc2 bl2 td2 fi2 fa2 tk2 gr2 se2 sr2) H → va_D A (wGG cI ad bd size rc g fs st ln su rr cr y79.2.1 y79.2.2.1 y79.2.2.2.1 y79.2.2.2.2.1 y79.2.2.2.2.2 tk gr se sr size2 rc2 g2 fs2 st2 ln2 su2 rr2 cr2 bc2 bl2 td2 fi2 fa2 tk2 gr2 se2 sr2) → va_S A s.heap H locs → lv_has ls 6 [(0, .ref (ad 16)), (1, .ref (bd 16)), (2, .int x1.1), (3, .int y7.1)] → W p l e rm_L_areAnswersSo s m args below meth c H locs 21 126 Q (F0 m 92 ls [.int t0_92, .int y79.1]) := by
                  intro t0_92 hf H locs ls hP hD hS hl
                  rw [hk92] at hf
                  try dsimp only at hf
                  refine lv_icmp_ne (tgt := 109) hx hb dL_areAnswersSo_92 (by decide) (fun c_92 => ?_) (fun c_92 => ?_)
                  · have hf := ite_f c_92 hf
                    refine lv_iconst (v := 0) hx hb dL_areAnswersSo_109 (by decide) ?_
                    cases hf
                    exact hR _ _ _ _ _ _ _ _ (by decide) rfl rfl hP hD hS (Nat.le_of_ble_eq_true rfl) (Nat.le_of_ble_eq_true rfl) dL_areAnswersSo_110
                  · have hf := ite_t c_92 hf
                    refine lv_iload_n hx hb dL_areAnswersSo_95 rfl (lv_at hl 3 rfl) ?_
                    refine lv_iload_n hx hb dL_areAnswersSo_96 rfl (lv_at hl 2 rfl) ?_
                    refine lv_iconst (v := 2) hx hb dL_areAnswersSo_97 (by decide) ?_
                    obtain ⟨k106, hk106, hf⟩ := jn_some hf
                    have w106 : ∀ (t0_106 : Int32), k106 t0_106 = some r → ∀ (H : Heap) (locs : List Loc) (ls : Array Slot), va_P D vwCl (wGG cI ad bd size rc g fs st ln su rr cr y79.2.1 y79.2.2.1 y79.2.2.2.1 y79.2.2.2.2.1 y79.2.2.2.2.2 tk gr se sr size2 rc2 g2 fs2 st2 ln2 su2 rr2 cr2 bc2 bl2 td2 fi2 fa2 tk2 gr2 se2 sr2) H → va_D A (wGG cI ad bd size rc g fs st ln su rr cr y79.2.1 y79.2.2.1 y79.2.2.2.1 y79.2.2.2.2.1 y79.2.2.2.2.2 tk gr se sr size2 rc2 g2 fs2 st2 ln2 su2 rr2 cr2 bc2 bl2 td2 fi2 fa2 tk2 gr2 se2 sr2) → va_S A s.heap H locs → lv_has ls 6 [(0, .ref (ad 16)), (1, .ref (bd 16)), (2, .int x1.1), (3, .int y7.1)] → W p l e rm_L_areAnswersSo s m args below meth c H locs 21 126 Q (F0 m 106 ls [.int t0_106, .int y7.1]) := by
                      intro t0_106 hf H locs ls hP hD hS hl
                      rw [hk106] at hf
                      try dsimp only at hf
                      refine lv_icmp_eq (tgt := 111) hx hb dL_areAnswersSo_106 (by decide) (fun c_106 => ?_) (fun c_106 => ?_)
                      · have hf := ite_t c_106 hf
                        exact w111 y79.2.1 y79.2.2.1 y79.2.2.2.1 y79.2.2.2.2.1 y79.2.2.2.2.2 hf _ _ _ hP hD hS (lv_sub hl [0, 1, 2, 3] rfl)
                      · have hf := ite_f c_106 hf
                        refine lv_iconst (v := 0) hx hb dL_areAnswersSo_109 (by decide) ?_
                        cases hf
                        exact hR _ _ _ _ _ _ _ _ (by decide) rfl rfl hP hD hS (Nat.le_of_ble_eq_true rfl) (Nat.le_of_ble_eq_true rfl) dL_areAnswersSo_110
                    refine lv_icmp_ge (tgt := 105) hx hb dL_areAnswersSo_98 (by decide) (fun c_98 => ?_) (fun c_98 => ?_)
                    · have hf := ite_t c_98 hf
                      refine lv_iconst (v := 2) hx hb dL_areAnswersSo_105 (by decide) ?_
                      exact w106 2 hf _ _ _ hP hD hS (lv_sub hl [0, 1, 2, 3] rfl)
                    · have hf := ite_f c_98 hf
                      refine lv_iload_n hx hb dL_areAnswersSo_101 rfl (lv_at hl 2 rfl) ?_
                      refine lv_goto (tgt := 106) hx hb dL_areAnswersSo_102 (by decide) ?_
                      exact w106 x1.1 hf _ _ _ hP hD hS (lv_sub hl [0, 1, 2, 3] rfl)
                refine lv_icmp_ge (tgt := 91) hx hb dL_areAnswersSo_84 (by decide) (fun c_84 => ?_) (fun c_84 => ?_)
                · have hf := ite_t c_84 hf
                  refine lv_iconst (v := 5) hx hb dL_areAnswersSo_91 (by decide) ?_
                  exact w92 5 hf _ _ _ hP hD hS (lv_sub hl [0, 1, 2, 3] rfl)
                · have hf := ite_f c_84 hf
                  refine lv_iload_n hx hb dL_areAnswersSo_87 rfl (lv_at hl 2 rfl) ?_
                  refine lv_goto (tgt := 92) hx hb dL_areAnswersSo_88 (by decide) ?_
                  exact w92 x1.1 hf _ _ _ hP hD hS (lv_sub hl [0, 1, 2, 3] rfl)
        refine lv_icmp_le (tgt := 69) hx hb dL_areAnswersSo_62 (by decide) (fun c_62 => ?_) (fun c_62 => ?_)
        · have hf := ite_t c_62 hf
          refine lv_iconst (v := 0) hx hb dL_areAnswersSo_69 (by decide) ?_
          exact w70 0 hf _ _ _ hP hD hS (lv_sub hl [0, 1, 2, 3] rfl)
        · have hf := ite_f c_62 hf
          refine lv_iconst (v := 1) hx hb dL_areAnswersSo_65 (by decide) ?_
          refine lv_goto (tgt := 70) hx hb dL_areAnswersSo_66 (by decide) ?_
          exact w70 1 hf _ _ _ hP hD hS (lv_sub hl [0, 1, 2, 3] rfl)
      refine lv_icmp_ne (tgt := 58) hx hb dL_areAnswersSo_51 (by decide) (fun c_51 => ?_) (fun c_51 => ?_)
      · have hf := ite_f c_51 hf
        refine lv_iconst (v := 0) hx hb dL_areAnswersSo_58 (by decide) ?_
        exact w59 0 hf _ _ _ hP hD hS (lv_sub hl [0, 1, 2, 3, 4] rfl)
      · have hf := ite_t c_51 hf
        refine lv_iconst (v := 1) hx hb dL_areAnswersSo_54 (by decide) ?_
        refine lv_goto (tgt := 59) hx hb dL_areAnswersSo_55 (by decide) ?_
        exact w59 1 hf _ _ _ hP hD hS (lv_sub hl [0, 1, 2, 3, 4] rfl)
    have l17 : ∀ (nn : Nat) (v4_17 : Int32) (v5_17 : Int32), nn ≤ 18 → f_L_areAnswersSo_L17 size g k49 nn v4_17 v5_17 = some r → ∀ (H : Heap) (locs : List Loc) (ls : Array Slot), va_P D vwCl (wGG cI ad bd size rc g fs st ln su rr cr y7.2.1 y7.2.2.1 y7.2.2.2.1 y7.2.2.2.2.1 y7.2.2.2.2.2 tk gr se sr size2 rc2 g2 fs2 st2 ln2 su2 rr2 cr2 bc2 bl2 td2 fi2 fa2 tk2 gr2 se2 sr2) H → va_D A (wGG cI ad bd size rc g fs st ln su rr cr y7.2.1 y7.2.2.1 y7.2.2.2.1 y7.2.2.2.2.1 y7.2.2.2.2.2 tk gr se sr size2 rc2 g2 fs2 st2 ln2 su2 rr2 cr2 bc2 bl2 td2 fi2 fa2 tk2 gr2 se2 sr2) → va_S A s.heap H locs → lv_has ls 6 [(0, .ref (ad 16)), (1, .ref (bd 16)), (2, .int x1.1), (3, .int y7.1), (4, .int v4_17), (5, .int v5_17)] → W p l e rm_L_areAnswersSo s m args below meth c H locs (20 - 1 * nn) (120 - 6 * nn) Q (F0 m 17 ls []) := by
      intro nn
      induction nn with
      | zero => intro _ _ _ hf; exact nomatch (show (none : Option _) = some r from hf)
      | succ n17 ih17 =>
        intro v4_17 v5_17 hn hf H locs ls hP hD hS hl
        rw [f_L_areAnswersSo_L17.eq_2] at hf
        refine lv_iload hx hb dL_areAnswersSo_17 (lv_at hl 5 rfl) ?_
        refine lv_bipush (v := 16) hx hb dL_areAnswersSo_19 (by decide) ?_
        refine lv_icmp_ge (tgt := 49) hx hb dL_areAnswersSo_21 (by decide) (fun c_21 => ?_) (fun c_21 => ?_)
        · have hf := ite_t c_21 hf
          refine W.widen (k := 20) (n := 120) (by omega) (by omega) ?_
          exact w49 v4_17 hf _ _ _ hP hD hS (lv_sub hl [0, 1, 2, 3, 4] rfl)
        · have hf := ite_f c_21 hf
          refine lv_iload hx hb dL_areAnswersSo_24 (lv_at hl 4 rfl) ?_
          refine lv_aload_n hx hb dL_areAnswersSo_26 rfl (lv_at hl 0 rfl) ?_
          refine lv_iload hx hb dL_areAnswersSo_27 (lv_at hl 5 rfl) ?_
          obtain ⟨x29, hy29, hf⟩ := Option.bind_eq_some_iff.mp hf
          refine clSW_i (As := [.ref (ad 16), .int v5_17]) (rest := [.int v4_17]) (wGG cI ad bd size rc g fs st ln su rr cr y7.2.1 y7.2.2.1 y7.2.2.2.1 y7.2.2.2.2.1 y7.2.2.2.2.2 tk gr se sr size2 rc2 g2 fs2 st2 ln2 su2 rr2 cr2 bc2 bl2 td2 fi2 fa2 tk2 gr2 se2 sr2) ⟨hx, hb, hml, hown, hts⟩ (K_L_digit l hst D cI cZ ad H.size size rc g fs st ln su rr cr y7.2.1 y7.2.2.1 y7.2.2.2.1 y7.2.2.2.2.1 y7.2.2.2.2.2 tk gr se sr v5_17 _ hy29) (vx_cwSW 2 hts gL_areAnswersSo_L_digit rfl rfl rfl (by decide +kernel) ⟨Nat.le_of_ble_eq_true rfl, Nat.le_of_ble_eq_true rfl⟩) hK hXS hNC hP hD hS hA hl.1 [0, 1, 2, 3, 4, 5, 6, 7, 8, 9, 10, 11, 12, 13, 14, 15, 16] (by decide) rfl rfl rfl rfl rfl (Nat.le_of_ble_eq_true rfl) dL_areAnswersSo_29 ⟨by show _ ≤ 27; omega, by show _ ≤ 162; omega⟩ (fun H locs hP hD hS => ?_)
          obtain ⟨k40, hk40, hf⟩ := jn_some hf
          have w40 : ∀ (t0_40 : Int32), k40 t0_40 = some r → ∀ (H : Heap) (locs : List Loc) (ls : Array Slot), va_P D vwCl (wGG cI ad bd size rc g fs st ln su rr cr y7.2.1 y7.2.2.1 y7.2.2.2.1 y7.2.2.2.2.1 y7.2.2.2.2.2 tk gr se sr size2 rc2 g2 fs2 st2 ln2 su2 rr2 cr2 bc2 bl2 td2 fi2 fa2 tk2 gr2 se2 sr2) H → va_D A (wGG cI ad bd size rc g fs st ln su rr cr y7.2.1 y7.2.2.1 y7.2.2.2.1 y7.2.2.2.2.1 y7.2.2.2.2.2 tk gr se sr size2 rc2 g2 fs2 st2 ln2 su2 rr2 cr2 bc2 bl2 td2 fi2 fa2 tk2 gr2 se2 sr2) → va_S A s.heap H locs → lv_has ls 6 [(0, .ref (ad 16)), (1, .ref (bd 16)), (2, .int x1.1), (3, .int y7.1), (5, .int v5_17)] → W p l e rm_L_areAnswersSo s m args below meth c H locs (20 - 1 * (n17 + 1) + 1) (120 - 6 * (n17 + 1) + 6) Q (F0 m 40 ls [.int t0_40, .int v4_17]) := by
            intro t0_40 hf H locs ls hP hD hS hl
            rw [hk40] at hf
            try dsimp only at hf
            refine lv_iadd hx hb dL_areAnswersSo_40 ?_
            refine lv_istore (lv' := [(4, .int (v4_17 + t0_40)), (0, .ref (ad 16)), (1, .ref (bd 16)), (2, .int x1.1), (3, .int y7.1), (5, .int v5_17)]) hx hb dL_areAnswersSo_41 hl (by decide) rfl (fun ls hl => ?_)
            refine lv_iinc (v := (v5_17 + 1)) (lv' := [(5, .int (v5_17 + 1)), (4, .int (v4_17 + t0_40)), (0, .ref (ad 16)), (1, .ref (bd 16)), (2, .int x1.1), (3, .int y7.1)]) hx hb dL_areAnswersSo_43 hl (k := 5) rfl rfl (by decide) rfl (fun ls hl => ?_)
            refine lv_goto (tgt := 17) hx hb dL_areAnswersSo_46 (by decide) ?_
            refine W.widen (k := 20 - 1 * n17) (n := 120 - 6 * n17) (by omega) (by omega) ?_
            exact ih17 (v4_17 + t0_40) (v5_17 + 1) (by omega) hf _ _ _ hP hD hS (lv_sub hl [2, 3, 4, 5, 1, 0] rfl)
          refine lv_if_ne (tgt := 39) hx hb dL_areAnswersSo_32 (by decide) (fun c_32 => ?_) (fun c_32 => ?_)
          · have hf := ite_f c_32 hf
            refine lv_iconst (v := 0) hx hb dL_areAnswersSo_39 (by decide) ?_
            exact w40 0 hf _ _ _ hP hD hS (lv_sub hl [0, 1, 2, 3, 5] rfl)
          · have hf := ite_t c_32 hf
            refine lv_iconst (v := 1) hx hb dL_areAnswersSo_35 (by decide) ?_
            refine lv_goto (tgt := 40) hx hb dL_areAnswersSo_36 (by decide) ?_
            exact w40 1 hf _ _ _ hP hD hS (lv_sub hl [0, 1, 2, 3, 5] rfl)
    refine W.widen (k := 20 - 1 * 18) (n := 120 - 6 * 18) (Nat.le_of_ble_eq_true rfl) (Nat.le_of_ble_eq_true rfl) ?_
    exact l17 18 0 0 (Nat.le_refl _) hf _ _ _ hP hD hS (lv_sub hl [4, 5, 3, 2, 1, 0] rfl)
