def f_L_low (p0 : Int32) (p1 : Int32) : Option (Int32) :=
  gd (¬ p1 = 0) <| some ((p0 &&& 2147483647) - (p0 &&& 2147483647) / p1 * p1)
def rm_L_low : Room := { frames := 0, cells := 0, slots := 0, locals := 0 }
set_option maxRecDepth 100000 in
set_option maxHeartbeats 8000000 in
theorem K_L_low (l : Launch) (D : va_G) (cI cZ : ClassId)  (sz : Nat)  (p0 : Int32) (p1 : Int32) (r : (Int32)) (hf : f_L_low p0 p1 = some r) : Met l yL_low wsL_low rm_L_low (PC D cI cZ sz [.int p0, .int p1] (wE)) (QI D cI cZ sz (wE) r (wE)) 0 0 (va_A (wE) sz) := by
  refine mk_i (cc := cL_low) (maxL := 2) (lv0 := [(0, .int p0), (1, .int p1)]) (by decide) rfl (Nat.le_of_ble_eq_true rfl) rfl ?_
  intro p e s m args below meth c ls A Q H hx hb hml hown hts hK hP hD hA hS hl hR
  rw [f_L_low] at hf
  refine lv_iload_n hx hb dL_low_0 rfl (lv_at hl 0 rfl) ?_
  refine lv_ldc (v := 2147483647) hx hb hown (hts (.constant RL 7 2147483647) (by decide +kernel)) dL_low_1 ?_
  refine lv_iand hx hb dL_low_3 ?_
  refine lv_iload_n hx hb dL_low_4 rfl (lv_at hl 1 rfl) ?_
  obtain ⟨hz5, hf⟩ := gd_some hf
  refine lv_irem hx hb dL_low_5 hz5 ?_
  cases hf
  exact hR _ _ _ _ _ _ rfl rfl hP hD hS dL_low_6
def f_L_begin (N : Nat) (size : Int32) (rc : Int32) (g : Nat → Int32) (fs : Nat → Int32) (st : Nat → Int32) (ln : Nat → Int32) (su : Nat → Int32) (rr : Nat → Int32) (cr : Nat → Int32) (p1 : Int32) : Option (Int32 × Int32 × Int32 × (Nat → Int32) × (Nat → Int32) × (Nat → Int32) × (Nat → Int32) × (Nat → Int32) × (Nat → Int32) × (Nat → Int32)) :=
  (f_X3_begin N size rc g fs st ln su rr cr p1).bind fun x2 => sm x2 (fun y2 => some (0, y2.1, y2.2.1, y2.2.2.1, y2.2.2.2.1, y2.2.2.2.2.1, y2.2.2.2.2.2.1, y2.2.2.2.2.2.2.1, y2.2.2.2.2.2.2.2.1, y2.2.2.2.2.2.2.2.2)) (fun z2 => (if z2.1 = 1 then some ((-99999), z2.2.1, z2.2.2.1, z2.2.2.2.1, z2.2.2.2.2.1, z2.2.2.2.2.2.1, z2.2.2.2.2.2.2.1, z2.2.2.2.2.2.2.2.1, z2.2.2.2.2.2.2.2.2.1, z2.2.2.2.2.2.2.2.2.2) else none))
def rm_L_begin : Room := { frames := 9, cells := 1, slots := 6, locals := 221 }
set_option maxRecDepth 100000 in
set_option maxHeartbeats 16000000 in
theorem K_L_begin (l : Launch) (hst : l.stackTraces = false) (D : va_G) (cI cZ : ClassId) (ad : Nat → Nat) (sz : Nat) (N : Nat) (size rc : Int32) (g fs st ln su rr cr : Nat → Int32) (bc : Int32) (bl td fi fa : Nat → Int32) (tk gr : Int32) (se sr : Nat → Int32) (p1 : Int32) (r : (Int32 × Int32 × Int32 × (Nat → Int32) × (Nat → Int32) × (Nat → Int32) × (Nat → Int32) × (Nat → Int32) × (Nat → Int32) × (Nat → Int32))) (hf : f_L_begin N size rc g fs st ln su rr cr p1 = some r) : Met l yL_begin wsL_begin rm_L_begin (PL D cI cZ sz [.ref (ad 16), .int p1] (wG cI ad size rc g fs st ln su rr cr bc bl td fi fa tk gr se sr)) (QI D cI cZ sz (wG cI ad size rc g fs st ln su rr cr bc bl td fi fa tk gr se sr) r.1 (wG cI ad r.2.1 r.2.2.1 r.2.2.2.1 r.2.2.2.2.1 r.2.2.2.2.2.1 r.2.2.2.2.2.2.1 r.2.2.2.2.2.2.2.1 r.2.2.2.2.2.2.2.2.1 r.2.2.2.2.2.2.2.2.2 bc bl td fi fa tk gr se sr)) 1 6 (va_A (wG cI ad size rc g fs st ln su rr cr bc bl td fi fa tk gr se sr) sz) := by
  refine mkl_i (cc := cL_begin) (maxL := 3) (lv0 := [(0, .ref (ad 16)), (1, .int p1)]) (hh := [(0, 6, 7, 14)]) rfl (by decide) rfl (Nat.le_of_ble_eq_true rfl) rfl ?_
  intro p e s m args below meth c ls A Q H hx hb hml hown hts hK hXS hNC hP hD hA hS hl htab hR
  rw [f_L_begin] at hf
  refine lv_aload_n hx hb dL_begin_0 rfl (lv_at hl 0 rfl) ?_
  refine lv_iload_n hx hb dL_begin_1 rfl (lv_at hl 1 rfl) ?_
  obtain ⟨x2, hy2, hf⟩ := Option.bind_eq_some_iff.mp hf
  refine clX_v (As := [.int p1]) (rest := []) (fun (u : Int32 × Int32 × (Nat → Int32) × (Nat → Int32) × (Nat → Int32) × (Nat → Int32) × (Nat → Int32) × (Nat → Int32) × (Nat → Int32)) => wG cI ad u.1 u.2.1 u.2.2.1 u.2.2.2.1 u.2.2.2.2.1 u.2.2.2.2.2.1 u.2.2.2.2.2.2.1 u.2.2.2.2.2.2.2.1 u.2.2.2.2.2.2.2.2 bc bl td fi fa tk gr se sr) (fun (u : Nat × Int32 × Int32 × (Nat → Int32) × (Nat → Int32) × (Nat → Int32) × (Nat → Int32) × (Nat → Int32) × (Nat → Int32) × (Nat → Int32)) => u.1) (fun (u : Nat × Int32 × Int32 × (Nat → Int32) × (Nat → Int32) × (Nat → Int32) × (Nat → Int32) × (Nat → Int32) × (Nat → Int32) × (Nat → Int32)) => wG cI ad u.2.1 u.2.2.1 u.2.2.2.1 u.2.2.2.2.1 u.2.2.2.2.2.1 u.2.2.2.2.2.2.1 u.2.2.2.2.2.2.2.1 u.2.2.2.2.2.2.2.2.1 u.2.2.2.2.2.2.2.2.2 bc bl td fi fa tk gr se sr) (fun (u : Int32 × Int32 × (Nat → Int32) × (Nat → Int32) × (Nat → Int32) × (Nat → Int32) × (Nat → Int32) × (Nat → Int32) × (Nat → Int32)) => wG cI ad u.1 u.2.1 u.2.2.1 u.2.2.2.1 u.2.2.2.2.1 u.2.2.2.2.2.1 u.2.2.2.2.2.2.1 u.2.2.2.2.2.2.2.1 u.2.2.2.2.2.2.2.2 bc bl td fi fa tk gr se sr) (fun (u : Nat × Int32 × Int32 × (Nat → Int32) × (Nat → Int32) × (Nat → Int32) × (Nat → Int32) × (Nat → Int32) × (Nat → Int32) × (Nat → Int32)) => wG cI ad u.2.1 u.2.2.1 u.2.2.2.1 u.2.2.2.2.1 u.2.2.2.2.2.1 u.2.2.2.2.2.2.1 u.2.2.2.2.2.2.2.1 u.2.2.2.2.2.2.2.2.1 u.2.2.2.2.2.2.2.2.2 bc bl td fi fa tk gr se sr) ⟨hx, hb, hml, hown, hts⟩ (K_X3_begin l hst D cI cZ ad H.size N size rc g fs st ln su rr cr bc bl td fi fa tk gr se sr p1 _ hy2) (cwV 1 hts gL_begin_X3_begin rfl rfl rfl (by decide +kernel) ⟨Nat.le_of_ble_eq_true rfl, Nat.le_of_ble_eq_true rfl⟩) hK hXS hP hD hS hA hl.1 [0, 1, 2, 3, 4, 5, 6, 7, 8, 9, 10, 11, 12, 13, 14, 15, 16] (by decide) rfl (fun _ => rfl) (fun _ => rfl) (fun _ => rfl) (fun _ => rfl) 3 16 rfl rfl rfl rfl rfl (Nat.le_of_ble_eq_true rfl) dL_begin_2 ⟨Nat.le_of_ble_eq_true rfl, Nat.le_of_ble_eq_true rfl⟩ (fun z2 hz E ce q9 H locs hE hP hD hS hq hv hc => ?_) (fun y2 hz H locs hP hD hS => ?_)
  · rw [hz] at hf
    have hf := sm_r hf
    rcases Decidable.em (z2.1 = 1) with c_1 | c_1
    · have hf := ite_t c_1 hf
      have hE : E = eA := by rw [hE, c_1]; rfl
      subst hE
      refine vx_catch (own := RL) (name := eA) hown [] ⟨0, 6, 7, 14⟩ [] htab (fun z hz => nomatch hz) rfl (by decide) (hts (.classLink RL 14 eA) (by decide +kernel)) (va_Nw.use rfl (hXS.2.2.2 (.castable eA eA) (by decide +kernel))) hq hv hc ?_
      refine lv_astore_n (x := q9) (lv' := [(2, .ref q9), (0, .ref (ad 16)), (1, .int p1)]) hx hb dL_begin_7 rfl hl (by decide) rfl (fun ls hl => ?_)
      refine lv_ldc (v := (-99999)) hx hb hown (hts (.constant RL 16 (-99999)) (by decide +kernel)) dL_begin_8 ?_
      cases hf
      exact hR _ _ _ _ _ _ _ _ rfl rfl hP hD hS (Nat.le_of_ble_eq_true rfl) (Nat.le_of_ble_eq_true rfl) dL_begin_10
    have hf := ite_f c_1 hf
    exact nomatch hf
  · rw [hz] at hf
    have hf := sm_l hf
    refine lv_iconst (v := 0) hx hb dL_begin_5 (by decide) ?_
    cases hf
    exact hR _ _ _ _ _ _ _ _ rfl rfl hP hD hS (Nat.le_of_ble_eq_true rfl) (Nat.le_of_ble_eq_true rfl) dL_begin_6
def f_L_bar (N : Nat) (size : Int32) (rc : Int32) (g : Nat → Int32) (fs : Nat → Int32) (st : Nat → Int32) (ln : Nat → Int32) (su : Nat → Int32) (rr : Nat → Int32) (cr : Nat → Int32) (p1 : Int32) : Option (Int32 × Int32 × (Nat → Int32) × (Nat → Int32) × (Nat → Int32) × (Nat → Int32) × (Nat → Int32) × (Nat → Int32) × (Nat → Int32)) :=
  (f_X3_bar N size rc g fs st ln su rr cr p1).bind fun x2 => sm x2 (fun y2 => (if y2.1 = 0 then some (0, y2.2.1, y2.2.2.1, y2.2.2.2.1, y2.2.2.2.2.1, y2.2.2.2.2.2.1, y2.2.2.2.2.2.2.1, y2.2.2.2.2.2.2.2.1, y2.2.2.2.2.2.2.2.2) else some (1, y2.2.1, y2.2.2.1, y2.2.2.2.1, y2.2.2.2.2.1, y2.2.2.2.2.2.1, y2.2.2.2.2.2.2.1, y2.2.2.2.2.2.2.2.1, y2.2.2.2.2.2.2.2.2))) (fun z2 => (if z2.1 = 3 then some ((-99999), z2.2.1, z2.2.2.1, z2.2.2.2.1, z2.2.2.2.2.1, z2.2.2.2.2.2.1, z2.2.2.2.2.2.2.1, z2.2.2.2.2.2.2.2.1, z2.2.2.2.2.2.2.2.2) else none))
def rm_L_bar : Room := { frames := 10, cells := 1, slots := 6, locals := 242 }
set_option maxRecDepth 100000 in
set_option maxHeartbeats 16000000 in
theorem K_L_bar (l : Launch) (hst : l.stackTraces = false) (D : va_G) (cI cZ : ClassId) (ad : Nat → Nat) (sz : Nat) (N : Nat) (size rc : Int32) (g fs st ln su rr cr : Nat → Int32) (bc : Int32) (bl td fi fa : Nat → Int32) (tk gr : Int32) (se sr : Nat → Int32) (p1 : Int32) (r : (Int32 × Int32 × (Nat → Int32) × (Nat → Int32) × (Nat → Int32) × (Nat → Int32) × (Nat → Int32) × (Nat → Int32) × (Nat → Int32))) (hf : f_L_bar N size rc g fs st ln su rr cr p1 = some r) : Met l yL_bar wsL_bar rm_L_bar (PL D cI cZ sz [.ref (ad 16), .int p1] (wG cI ad size rc g fs st ln su rr cr bc bl td fi fa tk gr se sr)) (QI D cI cZ sz (wG cI ad size rc g fs st ln su rr cr bc bl td fi fa tk gr se sr) r.1 (wG cI ad size r.2.1 r.2.2.1 r.2.2.2.1 r.2.2.2.2.1 r.2.2.2.2.2.1 r.2.2.2.2.2.2.1 r.2.2.2.2.2.2.2.1 r.2.2.2.2.2.2.2.2 bc bl td fi fa tk gr se sr)) 1 6 (va_A (wG cI ad size rc g fs st ln su rr cr bc bl td fi fa tk gr se sr) sz) := by
  refine mkl_i (cc := cL_bar) (maxL := 3) (lv0 := [(0, .ref (ad 16)), (1, .int p1)]) (hh := [(0, 13, 14, 21)]) rfl (by decide) rfl (Nat.le_of_ble_eq_true rfl) rfl ?_
  intro p e s m args below meth c ls A Q H hx hb hml hown hts hK hXS hNC hP hD hA hS hl htab hR
  rw [f_L_bar] at hf
  refine lv_aload_n hx hb dL_bar_0 rfl (lv_at hl 0 rfl) ?_
  refine lv_iload_n hx hb dL_bar_1 rfl (lv_at hl 1 rfl) ?_
  obtain ⟨x2, hy2, hf⟩ := Option.bind_eq_some_iff.mp hf
  refine clX_i (As := [.int p1]) (rest := []) (fun (u : Int32 × Int32 × (Nat → Int32) × (Nat → Int32) × (Nat → Int32) × (Nat → Int32) × (Nat → Int32) × (Nat → Int32) × (Nat → Int32)) => u.1) (fun (u : Int32 × Int32 × (Nat → Int32) × (Nat → Int32) × (Nat → Int32) × (Nat → Int32) × (Nat → Int32) × (Nat → Int32) × (Nat → Int32)) => wG cI ad size u.2.1 u.2.2.1 u.2.2.2.1 u.2.2.2.2.1 u.2.2.2.2.2.1 u.2.2.2.2.2.2.1 u.2.2.2.2.2.2.2.1 u.2.2.2.2.2.2.2.2 bc bl td fi fa tk gr se sr) (fun (u : Nat × Int32 × (Nat → Int32) × (Nat → Int32) × (Nat → Int32) × (Nat → Int32) × (Nat → Int32) × (Nat → Int32) × (Nat → Int32)) => u.1) (fun (u : Nat × Int32 × (Nat → Int32) × (Nat → Int32) × (Nat → Int32) × (Nat → Int32) × (Nat → Int32) × (Nat → Int32) × (Nat → Int32)) => wG cI ad size u.2.1 u.2.2.1 u.2.2.2.1 u.2.2.2.2.1 u.2.2.2.2.2.1 u.2.2.2.2.2.2.1 u.2.2.2.2.2.2.2.1 u.2.2.2.2.2.2.2.2 bc bl td fi fa tk gr se sr) (fun (u : Int32 × Int32 × (Nat → Int32) × (Nat → Int32) × (Nat → Int32) × (Nat → Int32) × (Nat → Int32) × (Nat → Int32) × (Nat → Int32)) => wG cI ad size u.2.1 u.2.2.1 u.2.2.2.1 u.2.2.2.2.1 u.2.2.2.2.2.1 u.2.2.2.2.2.2.1 u.2.2.2.2.2.2.2.1 u.2.2.2.2.2.2.2.2 bc bl td fi fa tk gr se sr) (fun (u : Nat × Int32 × (Nat → Int32) × (Nat → Int32) × (Nat → Int32) × (Nat → Int32) × (Nat → Int32) × (Nat → Int32) × (Nat → Int32)) => wG cI ad size u.2.1 u.2.2.1 u.2.2.2.1 u.2.2.2.2.1 u.2.2.2.2.2.1 u.2.2.2.2.2.2.1 u.2.2.2.2.2.2.2.1 u.2.2.2.2.2.2.2.2 bc bl td fi fa tk gr se sr) ⟨hx, hb, hml, hown, hts⟩ (K_X3_bar l hst D cI cZ ad H.size N size rc g fs st ln su rr cr bc bl td fi fa tk gr se sr p1 _ hy2) (cwV 1 hts gL_bar_X3_bar rfl rfl rfl (by decide +kernel) ⟨Nat.le_of_ble_eq_true rfl, Nat.le_of_ble_eq_true rfl⟩) hK hXS hP hD hS hA hl.1 [0, 1, 2, 3, 4, 5, 6, 7, 8, 9, 10, 11, 12, 13, 14, 15, 16] (by decide) rfl (fun _ => rfl) (fun _ => rfl) (fun _ => rfl) (fun _ => rfl) 3 16 rfl rfl rfl rfl rfl (Nat.le_of_ble_eq_true rfl) dL_bar_2 ⟨Nat.le_of_ble_eq_true rfl, Nat.le_of_ble_eq_true rfl⟩ (fun z2 hz E ce q9 H locs hE hP hD hS hq hv hc => ?_) (fun y2 hz H locs hP hD hS => ?_)
  · rw [hz] at hf
    have hf := sm_r hf
    rcases Decidable.em (z2.1 = 3) with c_3 | c_3
    · have hf := ite_t c_3 hf
      have hE : E = eB := by rw [hE, c_3]; rfl
      subst hE
      refine vx_catch (own := RL) (name := eB) hown [] ⟨0, 13, 14, 21⟩ [] htab (fun z hz => nomatch hz) rfl (by decide) (hts (.classLink RL 21 eB) (by decide +kernel)) (va_Nw.use rfl (hXS.2.2.2 (.castable eB eB) (by decide +kernel))) hq hv hc ?_
      refine lv_astore_n (x := q9) (lv' := [(2, .ref q9), (0, .ref (ad 16)), (1, .int p1)]) hx hb dL_bar_14 rfl hl (by decide) rfl (fun ls hl => ?_)
      refine lv_ldc (v := (-99999)) hx hb hown (hts (.constant RL 16 (-99999)) (by decide +kernel)) dL_bar_15 ?_
      cases hf
      exact hR _ _ _ _ _ _ _ _ rfl rfl hP hD hS (Nat.le_of_ble_eq_true rfl) (Nat.le_of_ble_eq_true rfl) dL_bar_17
    have hf := ite_f c_3 hf
    exact nomatch hf
  · rw [hz] at hf
    have hf := sm_l hf
    refine lv_if_eq (tgt := 12) hx hb dL_bar_5 (by decide) (fun c_5 => ?_) (fun c_5 => ?_)
    · have hf := ite_t c_5 hf
      refine lv_iconst (v := 0) hx hb dL_bar_12 (by decide) ?_
      cases hf
      exact hR _ _ _ _ _ _ _ _ rfl rfl hP hD hS (Nat.le_of_ble_eq_true rfl) (Nat.le_of_ble_eq_true rfl) dL_bar_13
    · have hf := ite_f c_5 hf
      refine lv_iconst (v := 1) hx hb dL_bar_8 (by decide) ?_
      refine lv_goto (tgt := 13) hx hb dL_bar_9 (by decide) ?_
      cases hf
      exact hR _ _ _ _ _ _ _ _ rfl rfl hP hD hS (Nat.le_of_ble_eq_true rfl) (Nat.le_of_ble_eq_true rfl) dL_bar_13
def f_L_barBoth (N : Nat) (size : Int32) (rc : Int32) (g : Nat → Int32) (fs : Nat → Int32) (st : Nat → Int32) (ln : Nat → Int32) (su : Nat → Int32) (rr : Nat → Int32) (cr : Nat → Int32) (p1 : Int32) : Option (Int32 × Int32 × (Nat → Int32) × (Nat → Int32) × (Nat → Int32) × (Nat → Int32) × (Nat → Int32) × (Nat → Int32) × (Nat → Int32)) :=
  (f_X3_barBoth N size rc g fs st ln su rr cr p1).bind fun x2 => sm x2 (fun y2 => some (y2.1, y2.2.1, y2.2.2.1, y2.2.2.2.1, y2.2.2.2.2.1, y2.2.2.2.2.2.1, y2.2.2.2.2.2.2.1, y2.2.2.2.2.2.2.2.1, y2.2.2.2.2.2.2.2.2)) (fun z2 => (if z2.1 = 3 then some ((-99999), z2.2.1, z2.2.2.1, z2.2.2.2.1, z2.2.2.2.2.1, z2.2.2.2.2.2.1, z2.2.2.2.2.2.2.1, z2.2.2.2.2.2.2.2.1, z2.2.2.2.2.2.2.2.2) else none))
def rm_L_barBoth : Room := { frames := 10, cells := 1, slots := 6, locals := 243 }
set_option maxRecDepth 100000 in
set_option maxHeartbeats 16000000 in
theorem K_L_barBoth (l : Launch) (hst : l.stackTraces = false) (D : va_G) (cI cZ : ClassId) (ad : Nat → Nat) (sz : Nat) (N : Nat) (size rc : Int32) (g fs st ln su rr cr : Nat → Int32) (bc : Int32) (bl td fi fa : Nat → Int32) (tk gr : Int32) (se sr : Nat → Int32) (p1 : Int32) (r : (Int32 × Int32 × (Nat → Int32) × (Nat → Int32) × (Nat → Int32) × (Nat → Int32) × (Nat → Int32) × (Nat → Int32) × (Nat → Int32))) (hf : f_L_barBoth N size rc g fs st ln su rr cr p1 = some r) : Met l yL_barBoth wsL_barBoth rm_L_barBoth (PL D cI cZ sz [.ref (ad 16), .int p1] (wG cI ad size rc g fs st ln su rr cr bc bl td fi fa tk gr se sr)) (QI D cI cZ sz (wG cI ad size rc g fs st ln su rr cr bc bl td fi fa tk gr se sr) r.1 (wG cI ad size r.2.1 r.2.2.1 r.2.2.2.1 r.2.2.2.2.1 r.2.2.2.2.2.1 r.2.2.2.2.2.2.1 r.2.2.2.2.2.2.2.1 r.2.2.2.2.2.2.2.2 bc bl td fi fa tk gr se sr)) 1 6 (va_A (wG cI ad size rc g fs st ln su rr cr bc bl td fi fa tk gr se sr) sz) := by
  refine mkl_i (cc := cL_barBoth) (maxL := 3) (lv0 := [(0, .ref (ad 16)), (1, .int p1)]) (hh := [(0, 5, 6, 21)]) rfl (by decide) rfl (Nat.le_of_ble_eq_true rfl) rfl ?_
  intro p e s m args below meth c ls A Q H hx hb hml hown hts hK hXS hNC hP hD hA hS hl htab hR
  rw [f_L_barBoth] at hf
  refine lv_aload_n hx hb dL_barBoth_0 rfl (lv_at hl 0 rfl) ?_
  refine lv_iload_n hx hb dL_barBoth_1 rfl (lv_at hl 1 rfl) ?_
  obtain ⟨x2, hy2, hf⟩ := Option.bind_eq_some_iff.mp hf
  refine clX_i (As := [.int p1]) (rest := []) (fun (u : Int32 × Int32 × (Nat → Int32) × (Nat → Int32) × (Nat → Int32) × (Nat → Int32) × (Nat → Int32) × (Nat → Int32) × (Nat → Int32)) => u.1) (fun (u : Int32 × Int32 × (Nat → Int32) × (Nat → Int32) × (Nat → Int32) × (Nat → Int32) × (Nat → Int32) × (Nat → Int32) × (Nat → Int32)) => wG cI ad size u.2.1 u.2.2.1 u.2.2.2.1 u.2.2.2.2.1 u.2.2.2.2.2.1 u.2.2.2.2.2.2.1 u.2.2.2.2.2.2.2.1 u.2.2.2.2.2.2.2.2 bc bl td fi fa tk gr se sr) (fun (u : Nat × Int32 × (Nat → Int32) × (Nat → Int32) × (Nat → Int32) × (Nat → Int32) × (Nat → Int32) × (Nat → Int32) × (Nat → Int32)) => u.1) (fun (u : Nat × Int32 × (Nat → Int32) × (Nat → Int32) × (Nat → Int32) × (Nat → Int32) × (Nat → Int32) × (Nat → Int32) × (Nat → Int32)) => wG cI ad size u.2.1 u.2.2.1 u.2.2.2.1 u.2.2.2.2.1 u.2.2.2.2.2.1 u.2.2.2.2.2.2.1 u.2.2.2.2.2.2.2.1 u.2.2.2.2.2.2.2.2 bc bl td fi fa tk gr se sr) (fun (u : Int32 × Int32 × (Nat → Int32) × (Nat → Int32) × (Nat → Int32) × (Nat → Int32) × (Nat → Int32) × (Nat → Int32) × (Nat → Int32)) => wG cI ad size u.2.1 u.2.2.1 u.2.2.2.1 u.2.2.2.2.1 u.2.2.2.2.2.1 u.2.2.2.2.2.2.1 u.2.2.2.2.2.2.2.1 u.2.2.2.2.2.2.2.2 bc bl td fi fa tk gr se sr) (fun (u : Nat × Int32 × (Nat → Int32) × (Nat → Int32) × (Nat → Int32) × (Nat → Int32) × (Nat → Int32) × (Nat → Int32) × (Nat → Int32)) => wG cI ad size u.2.1 u.2.2.1 u.2.2.2.1 u.2.2.2.2.1 u.2.2.2.2.2.1 u.2.2.2.2.2.2.1 u.2.2.2.2.2.2.2.1 u.2.2.2.2.2.2.2.2 bc bl td fi fa tk gr se sr) ⟨hx, hb, hml, hown, hts⟩ (K_X3_barBoth l hst D cI cZ ad H.size N size rc g fs st ln su rr cr bc bl td fi fa tk gr se sr p1 _ hy2) (cwV 1 hts gL_barBoth_X3_barBoth rfl rfl rfl (by decide +kernel) ⟨Nat.le_of_ble_eq_true rfl, Nat.le_of_ble_eq_true rfl⟩) hK hXS hP hD hS hA hl.1 [0, 1, 2, 3, 4, 5, 6, 7, 8, 9, 10, 11, 12, 13, 14, 15, 16] (by decide) rfl (fun _ => rfl) (fun _ => rfl) (fun _ => rfl) (fun _ => rfl) 3 16 rfl rfl rfl rfl rfl (Nat.le_of_ble_eq_true rfl) dL_barBoth_2 ⟨Nat.le_of_ble_eq_true rfl, Nat.le_of_ble_eq_true rfl⟩ (fun z2 hz E ce q9 H locs hE hP hD hS hq hv hc => ?_) (fun y2 hz H locs hP hD hS => ?_)
  · rw [hz] at hf
    have hf := sm_r hf
    rcases Decidable.em (z2.1 = 3) with c_3 | c_3
    · have hf := ite_t c_3 hf
      have hE : E = eB := by rw [hE, c_3]; rfl
      subst hE
      refine vx_catch (own := RL) (name := eB) hown [] ⟨0, 5, 6, 21⟩ [] htab (fun z hz => nomatch hz) rfl (by decide) (hts (.classLink RL 21 eB) (by decide +kernel)) (va_Nw.use rfl (hXS.2.2.2 (.castable eB eB) (by decide +kernel))) hq hv hc ?_
      refine lv_astore_n (x := q9) (lv' := [(2, .ref q9), (0, .ref (ad 16)), (1, .int p1)]) hx hb dL_barBoth_6 rfl hl (by decide) rfl (fun ls hl => ?_)
      refine lv_ldc (v := (-99999)) hx hb hown (hts (.constant RL 16 (-99999)) (by decide +kernel)) dL_barBoth_7 ?_
      cases hf
      exact hR _ _ _ _ _ _ _ _ rfl rfl hP hD hS (Nat.le_of_ble_eq_true rfl) (Nat.le_of_ble_eq_true rfl) dL_barBoth_9
    have hf := ite_f c_3 hf
    exact nomatch hf
  · rw [hz] at hf
    have hf := sm_l hf
    cases hf
    exact hR _ _ _ _ _ _ _ _ rfl rfl hP hD hS (Nat.le_of_ble_eq_true rfl) (Nat.le_of_ble_eq_true rfl) dL_barBoth_5
def f_L_give (size : Int32) (g : Nat → Int32) (p1 : Int32) (p2 : Int32) : Option (Int32 × (Nat → Int32)) :=
  (f_X3_give size g p1 p2).bind fun x3 => sm x3 (fun y3 => some (y3.1, y3.2)) (fun z3 => (if z3.1 = 3 then some ((-99999), z3.2) else if z3.1 = 1 then some ((-99999), z3.2) else if z3.1 = 2 then some ((-99999), z3.2) else none))
def rm_L_give : Room := { frames := 10, cells := 2, slots := 12, locals := 244 }
set_option maxRecDepth 100000 in
set_option maxHeartbeats 16000000 in
theorem K_L_give (l : Launch) (hst : l.stackTraces = false) (D : va_G) (cI cZ : ClassId) (ad : Nat → Nat) (sz : Nat) (size rc : Int32) (g fs st ln su rr cr : Nat → Int32) (bc : Int32) (bl td fi fa : Nat → Int32) (tk gr : Int32) (se sr : Nat → Int32) (p1 : Int32) (p2 : Int32) (r : (Int32 × (Nat → Int32))) (hf : f_L_give size g p1 p2 = some r) : Met l yL_give wsL_give rm_L_give (PL D cI cZ sz [.ref (ad 16), .int p1, .int p2] (wG cI ad size rc g fs st ln su rr cr bc bl td fi fa tk gr se sr)) (QI D cI cZ sz (wG cI ad size rc g fs st ln su rr cr bc bl td fi fa tk gr se sr) r.1 (wG cI ad size rc r.2 fs st ln su rr cr bc bl td fi fa tk gr se sr)) 2 12 (va_A (wG cI ad size rc g fs st ln su rr cr bc bl td fi fa tk gr se sr) sz) := by
  refine mkl_i (cc := cL_give) (maxL := 4) (lv0 := [(0, .ref (ad 16)), (1, .int p1), (2, .int p2)]) (hh := [(0, 6, 7, 21), (0, 6, 11, 14), (0, 6, 15, 31)]) rfl (by decide) rfl (Nat.le_of_ble_eq_true rfl) rfl ?_
  intro p e s m args below meth c ls A Q H hx hb hml hown hts hK hXS hNC hP hD hA hS hl htab hR
  rw [f_L_give] at hf
  refine lv_aload_n hx hb dL_give_0 rfl (lv_at hl 0 rfl) ?_
  refine lv_iload_n hx hb dL_give_1 rfl (lv_at hl 1 rfl) ?_
  refine lv_iload_n hx hb dL_give_2 rfl (lv_at hl 2 rfl) ?_
  obtain ⟨x3, hy3, hf⟩ := Option.bind_eq_some_iff.mp hf
  refine clX_i (As := [.int p1, .int p2]) (rest := []) (fun (u : Int32 × (Nat → Int32)) => u.1) (fun (u : Int32 × (Nat → Int32)) => wG cI ad size rc u.2 fs st ln su rr cr bc bl td fi fa tk gr se sr) (fun (u : Nat × (Nat → Int32)) => u.1) (fun (u : Nat × (Nat → Int32)) => wG cI ad size rc u.2 fs st ln su rr cr bc bl td fi fa tk gr se sr) (fun (u : Int32 × (Nat → Int32)) => wG cI ad size rc u.2 fs st ln su rr cr bc bl td fi fa tk gr se sr) (fun (u : Nat × (Nat → Int32)) => wG cI ad size rc u.2 fs st ln su rr cr bc bl td fi fa tk gr se sr) ⟨hx, hb, hml, hown, hts⟩ (K_X3_give l hst D cI cZ ad H.size size rc g fs st ln su rr cr bc bl td fi fa tk gr se sr p1 p2 _ hy3) (cwV 2 hts gL_give_X3_give rfl rfl rfl (by decide +kernel) ⟨Nat.le_of_ble_eq_true rfl, Nat.le_of_ble_eq_true rfl⟩) hK hXS hP hD hS hA hl.1 [0, 1, 2, 3, 4, 5, 6, 7, 8, 9, 10, 11, 12, 13, 14, 15, 16] (by decide) rfl (fun _ => rfl) (fun _ => rfl) (fun _ => rfl) (fun _ => rfl) 3 16 rfl rfl rfl rfl rfl (Nat.le_of_ble_eq_true rfl) dL_give_3 ⟨Nat.le_of_ble_eq_true rfl, Nat.le_of_ble_eq_true rfl⟩ (fun z3 hz E ce q9 H locs hE hP hD hS hq hv hc => ?_) (fun y3 hz H locs hP hD hS => ?_)
  · rw [hz] at hf
    have hf := sm_r hf
    rcases Decidable.em (z3.1 = 3) with c_3 | c_3
    · have hf := ite_t c_3 hf
      have hE : E = eB := by rw [hE, c_3]; rfl
      subst hE
      refine vx_catch (own := RL) (name := eB) hown [] ⟨0, 6, 7, 21⟩ [⟨0, 6, 11, 14⟩, ⟨0, 6, 15, 31⟩] htab (fun z hz => nomatch hz) rfl (by decide) (hts (.classLink RL 21 eB) (by decide +kernel)) (va_Nw.use rfl (hXS.2.2.2 (.castable eB eB) (by decide +kernel))) hq hv hc ?_
      refine lv_astore_n (x := q9) (lv' := [(3, .ref q9), (0, .ref (ad 16)), (1, .int p1), (2, .int p2)]) hx hb dL_give_7 rfl hl (by decide) rfl (fun ls hl => ?_)
      refine lv_ldc (v := (-99999)) hx hb hown (hts (.constant RL 16 (-99999)) (by decide +kernel)) dL_give_8 ?_
      cases hf
      exact hR _ _ _ _ _ _ _ _ rfl rfl hP hD hS (Nat.le_of_ble_eq_true rfl) (Nat.le_of_ble_eq_true rfl) dL_give_10
    have hf := ite_f c_3 hf
    rcases Decidable.em (z3.1 = 1) with c_1 | c_1
    · have hf := ite_t c_1 hf
      have hE : E = eA := by rw [hE, c_1]; rfl
      subst hE
      refine vx_catch (own := RL) (name := eA) hown [⟨0, 6, 7, 21⟩] ⟨0, 6, 11, 14⟩ [⟨0, 6, 15, 31⟩] htab (fun z hz => by rw [List.mem_singleton] at hz; subst hz; exact Or.inr ⟨by decide, eB, hts (.classLink RL 21 eB) (by decide +kernel), hNC.1⟩) rfl (by decide) (hts (.classLink RL 14 eA) (by decide +kernel)) (va_Nw.use rfl (hXS.2.2.2 (.castable eA eA) (by decide +kernel))) hq hv hc ?_
      refine lv_astore_n (x := q9) (lv' := [(3, .ref q9), (0, .ref (ad 16)), (1, .int p1), (2, .int p2)]) hx hb dL_give_11 rfl hl (by decide) rfl (fun ls hl => ?_)
      refine lv_ldc (v := (-99999)) hx hb hown (hts (.constant RL 16 (-99999)) (by decide +kernel)) dL_give_12 ?_
      cases hf
      exact hR _ _ _ _ _ _ _ _ rfl rfl hP hD hS (Nat.le_of_ble_eq_true rfl) (Nat.le_of_ble_eq_true rfl) dL_give_14
    have hf := ite_f c_1 hf
    rcases Decidable.em (z3.1 = 2) with c_2 | c_2
    · have hf := ite_t c_2 hf
      have hE : E = eS := by rw [hE, c_2]; rfl
      subst hE
      refine vx_catch (own := RL) (name := eS) hown [⟨0, 6, 7, 21⟩, ⟨0, 6, 11, 14⟩] ⟨0, 6, 15, 31⟩ [] htab (fun z hz => (List.mem_cons.mp hz).elim (fun h => by subst h; exact Or.inr ⟨by decide, eB, hts (.classLink RL 21 eB) (by decide +kernel), hNC.2.1⟩) (fun h => by rw [List.mem_singleton] at h; subst h; exact Or.inr ⟨by decide, eA, hts (.classLink RL 14 eA) (by decide +kernel), hNC.2.2⟩)) rfl (by decide) (hts (.classLink RL 31 eS) (by decide +kernel)) (va_Nw.use rfl (hXS.2.2.2 (.castable eS eS) (by decide +kernel))) hq hv hc ?_
      refine lv_astore_n (x := q9) (lv' := [(3, .ref q9), (0, .ref (ad 16)), (1, .int p1), (2, .int p2)]) hx hb dL_give_15 rfl hl (by decide) rfl (fun ls hl => ?_)
      refine lv_ldc (v := (-99999)) hx hb hown (hts (.constant RL 16 (-99999)) (by decide +kernel)) dL_give_16 ?_
      cases hf
      exact hR _ _ _ _ _ _ _ _ rfl rfl hP hD hS (Nat.le_of_ble_eq_true rfl) (Nat.le_of_ble_eq_true rfl) dL_give_18
    have hf := ite_f c_2 hf
    exact nomatch hf
  · rw [hz] at hf
    have hf := sm_l hf
    cases hf
    exact hR _ _ _ _ _ _ _ _ rfl rfl hP hD hS (Nat.le_of_ble_eq_true rfl) (Nat.le_of_ble_eq_true rfl) dL_give_6
def f_L_setSum (rc : Int32) (su : Nat → Int32) (p1 : Int32) (p2 : Int32) : Option (Int32 × (Nat → Int32)) :=
  (f_X3_setSum rc su p1 p2).bind fun x3 => sm x3 (fun y3 => some (y3.1, y3.2)) (fun z3 => (if z3.1 = 3 then some ((-99999), z3.2) else if z3.1 = 1 then some ((-99999), z3.2) else none))
def rm_L_setSum : Room := { frames := 10, cells := 2, slots := 12, locals := 244 }
set_option maxRecDepth 100000 in
set_option maxHeartbeats 16000000 in
theorem K_L_setSum (l : Launch) (hst : l.stackTraces = false) (D : va_G) (cI cZ : ClassId) (ad : Nat → Nat) (sz : Nat) (size rc : Int32) (g fs st ln su rr cr : Nat → Int32) (bc : Int32) (bl td fi fa : Nat → Int32) (tk gr : Int32) (se sr : Nat → Int32) (p1 : Int32) (p2 : Int32) (r : (Int32 × (Nat → Int32))) (hf : f_L_setSum rc su p1 p2 = some r) : Met l yL_setSum wsL_setSum rm_L_setSum (PL D cI cZ sz [.ref (ad 16), .int p1, .int p2] (wG cI ad size rc g fs st ln su rr cr bc bl td fi fa tk gr se sr)) (QI D cI cZ sz (wG cI ad size rc g fs st ln su rr cr bc bl td fi fa tk gr se sr) r.1 (wG cI ad size rc g fs st ln r.2 rr cr bc bl td fi fa tk gr se sr)) 2 12 (va_A (wG cI ad size rc g fs st ln su rr cr bc bl td fi fa tk gr se sr) sz) := by
  refine mkl_i (cc := cL_setSum) (maxL := 4) (lv0 := [(0, .ref (ad 16)), (1, .int p1), (2, .int p2)]) (hh := [(0, 6, 7, 21), (0, 6, 11, 14)]) rfl (by decide) rfl (Nat.le_of_ble_eq_true rfl) rfl ?_
  intro p e s m args below meth c ls A Q H hx hb hml hown hts hK hXS hNC hP hD hA hS hl htab hR
  rw [f_L_setSum] at hf
  refine lv_aload_n hx hb dL_setSum_0 rfl (lv_at hl 0 rfl) ?_
  refine lv_iload_n hx hb dL_setSum_1 rfl (lv_at hl 1 rfl) ?_
  refine lv_iload_n hx hb dL_setSum_2 rfl (lv_at hl 2 rfl) ?_
  obtain ⟨x3, hy3, hf⟩ := Option.bind_eq_some_iff.mp hf
  refine clX_i (As := [.int p1, .int p2]) (rest := []) (fun (u : Int32 × (Nat → Int32)) => u.1) (fun (u : Int32 × (Nat → Int32)) => wG cI ad size rc g fs st ln u.2 rr cr bc bl td fi fa tk gr se sr) (fun (u : Nat × (Nat → Int32)) => u.1) (fun (u : Nat × (Nat → Int32)) => wG cI ad size rc g fs st ln u.2 rr cr bc bl td fi fa tk gr se sr) (fun (u : Int32 × (Nat → Int32)) => wG cI ad size rc g fs st ln u.2 rr cr bc bl td fi fa tk gr se sr) (fun (u : Nat × (Nat → Int32)) => wG cI ad size rc g fs st ln u.2 rr cr bc bl td fi fa tk gr se sr) ⟨hx, hb, hml, hown, hts⟩ (K_X3_setSum l hst D cI cZ ad H.size size rc g fs st ln su rr cr bc bl td fi fa tk gr se sr p1 p2 _ hy3) (cwV 2 hts gL_setSum_X3_setSum rfl rfl rfl (by decide +kernel) ⟨Nat.le_of_ble_eq_true rfl, Nat.le_of_ble_eq_true rfl⟩) hK hXS hP hD hS hA hl.1 [0, 1, 2, 3, 4, 5, 6, 7, 8, 9, 10, 11, 12, 13, 14, 15, 16] (by decide) rfl (fun _ => rfl) (fun _ => rfl) (fun _ => rfl) (fun _ => rfl) 3 16 rfl rfl rfl rfl rfl (Nat.le_of_ble_eq_true rfl) dL_setSum_3 ⟨Nat.le_of_ble_eq_true rfl, Nat.le_of_ble_eq_true rfl⟩ (fun z3 hz E ce q9 H locs hE hP hD hS hq hv hc => ?_) (fun y3 hz H locs hP hD hS => ?_)
  · rw [hz] at hf
    have hf := sm_r hf
    rcases Decidable.em (z3.1 = 3) with c_3 | c_3
    · have hf := ite_t c_3 hf
      have hE : E = eB := by rw [hE, c_3]; rfl
      subst hE
      refine vx_catch (own := RL) (name := eB) hown [] ⟨0, 6, 7, 21⟩ [⟨0, 6, 11, 14⟩] htab (fun z hz => nomatch hz) rfl (by decide) (hts (.classLink RL 21 eB) (by decide +kernel)) (va_Nw.use rfl (hXS.2.2.2 (.castable eB eB) (by decide +kernel))) hq hv hc ?_
      refine lv_astore_n (x := q9) (lv' := [(3, .ref q9), (0, .ref (ad 16)), (1, .int p1), (2, .int p2)]) hx hb dL_setSum_7 rfl hl (by decide) rfl (fun ls hl => ?_)
      refine lv_ldc (v := (-99999)) hx hb hown (hts (.constant RL 16 (-99999)) (by decide +kernel)) dL_setSum_8 ?_
      cases hf
      exact hR _ _ _ _ _ _ _ _ rfl rfl hP hD hS (Nat.le_of_ble_eq_true rfl) (Nat.le_of_ble_eq_true rfl) dL_setSum_10
    have hf := ite_f c_3 hf
    rcases Decidable.em (z3.1 = 1) with c_1 | c_1
    · have hf := ite_t c_1 hf
      have hE : E = eA := by rw [hE, c_1]; rfl
      subst hE
      refine vx_catch (own := RL) (name := eA) hown [⟨0, 6, 7, 21⟩] ⟨0, 6, 11, 14⟩ [] htab (fun z hz => by rw [List.mem_singleton] at hz; subst hz; exact Or.inr ⟨by decide, eB, hts (.classLink RL 21 eB) (by decide +kernel), hNC.1⟩) rfl (by decide) (hts (.classLink RL 14 eA) (by decide +kernel)) (va_Nw.use rfl (hXS.2.2.2 (.castable eA eA) (by decide +kernel))) hq hv hc ?_
      refine lv_astore_n (x := q9) (lv' := [(3, .ref q9), (0, .ref (ad 16)), (1, .int p1), (2, .int p2)]) hx hb dL_setSum_11 rfl hl (by decide) rfl (fun ls hl => ?_)
      refine lv_ldc (v := (-99999)) hx hb hown (hts (.constant RL 16 (-99999)) (by decide +kernel)) dL_setSum_12 ?_
      cases hf
      exact hR _ _ _ _ _ _ _ _ rfl rfl hP hD hS (Nat.le_of_ble_eq_true rfl) (Nat.le_of_ble_eq_true rfl) dL_setSum_14
    have hf := ite_f c_1 hf
    exact nomatch hf
  · rw [hz] at hf
    have hf := sm_l hf
    cases hf
    exact hR _ _ _ _ _ _ _ _ rfl rfl hP hD hS (Nat.le_of_ble_eq_true rfl) (Nat.le_of_ble_eq_true rfl) dL_setSum_6
def f_L_press (N : Nat) (size : Int32) (rc : Int32) (g : Nat → Int32) (fs : Nat → Int32) (st : Nat → Int32) (ln : Nat → Int32) (su : Nat → Int32) : Option (Int32 × (Nat → Int32) × (Nat → Int32)) :=
  (f_X3_press N size rc g fs st ln su).bind fun x1 => sm x1 (fun y1 => some (y1.1, y1.2.1, y1.2.2)) (fun z1 => (if z1.1 = 2 then some ((-99999), z1.2.1, z1.2.2) else none))
def rm_L_press : Room := { frames := 9, cells := 1, slots := 6, locals := 220 }
set_option maxRecDepth 100000 in
set_option maxHeartbeats 16000000 in
theorem K_L_press (l : Launch) (hst : l.stackTraces = false) (D : va_G) (cI cZ : ClassId) (ad : Nat → Nat) (sz : Nat) (N : Nat) (size rc : Int32) (g fs st ln su rr cr : Nat → Int32) (bc : Int32) (bl td fi fa : Nat → Int32) (tk gr : Int32) (se sr : Nat → Int32) (r : (Int32 × (Nat → Int32) × (Nat → Int32))) (hf : f_L_press N size rc g fs st ln su = some r) : Met l yL_press wsL_press rm_L_press (PL D cI cZ sz [.ref (ad 16)] (wG cI ad size rc g fs st ln su rr cr bc bl td fi fa tk gr se sr)) (QI D cI cZ sz (wG cI ad size rc g fs st ln su rr cr bc bl td fi fa tk gr se sr) r.1 (wG cI ad size rc r.2.1 fs st ln r.2.2 rr cr bc bl td fi fa tk gr se sr)) 1 6 (va_A (wG cI ad size rc g fs st ln su rr cr bc bl td fi fa tk gr se sr) sz) := by
  refine mkl_i (cc := cL_press) (maxL := 2) (lv0 := [(0, .ref (ad 16))]) (hh := [(0, 4, 5, 31)]) rfl (by decide) rfl (Nat.le_of_ble_eq_true rfl) rfl ?_
  intro p e s m args below meth c ls A Q H hx hb hml hown hts hK hXS hNC hP hD hA hS hl htab hR
  rw [f_L_press] at hf
  refine lv_aload_n hx hb dL_press_0 rfl (lv_at hl 0 rfl) ?_
  obtain ⟨x1, hy1, hf⟩ := Option.bind_eq_some_iff.mp hf
  refine clX_i (As := []) (rest := []) (fun (u : Int32 × (Nat → Int32) × (Nat → Int32)) => u.1) (fun (u : Int32 × (Nat → Int32) × (Nat → Int32)) => wG cI ad size rc u.2.1 fs st ln u.2.2 rr cr bc bl td fi fa tk gr se sr) (fun (u : Nat × (Nat → Int32) × (Nat → Int32)) => u.1) (fun (u : Nat × (Nat → Int32) × (Nat → Int32)) => wG cI ad size rc u.2.1 fs st ln u.2.2 rr cr bc bl td fi fa tk gr se sr) (fun (u : Int32 × (Nat → Int32) × (Nat → Int32)) => wG cI ad size rc u.2.1 fs st ln u.2.2 rr cr bc bl td fi fa tk gr se sr) (fun (u : Nat × (Nat → Int32) × (Nat → Int32)) => wG cI ad size rc u.2.1 fs st ln u.2.2 rr cr bc bl td fi fa tk gr se sr) ⟨hx, hb, hml, hown, hts⟩ (K_X3_press l hst D cI cZ ad H.size N size rc g fs st ln su rr cr bc bl td fi fa tk gr se sr _ hy1) (cwV 0 hts gL_press_X3_press rfl rfl rfl (by decide +kernel) ⟨Nat.le_of_ble_eq_true rfl, Nat.le_of_ble_eq_true rfl⟩) hK hXS hP hD hS hA hl.1 [0, 1, 2, 3, 4, 5, 6, 7, 8, 9, 10, 11, 12, 13, 14, 15, 16] (by decide) rfl (fun _ => rfl) (fun _ => rfl) (fun _ => rfl) (fun _ => rfl) 3 16 rfl rfl rfl rfl rfl (Nat.le_of_ble_eq_true rfl) dL_press_1 ⟨Nat.le_of_ble_eq_true rfl, Nat.le_of_ble_eq_true rfl⟩ (fun z1 hz E ce q9 H locs hE hP hD hS hq hv hc => ?_) (fun y1 hz H locs hP hD hS => ?_)
  · rw [hz] at hf
    have hf := sm_r hf
    rcases Decidable.em (z1.1 = 2) with c_2 | c_2
    · have hf := ite_t c_2 hf
      have hE : E = eS := by rw [hE, c_2]; rfl
      subst hE
      refine vx_catch (own := RL) (name := eS) hown [] ⟨0, 4, 5, 31⟩ [] htab (fun z hz => nomatch hz) rfl (by decide) (hts (.classLink RL 31 eS) (by decide +kernel)) (va_Nw.use rfl (hXS.2.2.2 (.castable eS eS) (by decide +kernel))) hq hv hc ?_
      refine lv_astore_n (x := q9) (lv' := [(1, .ref q9), (0, .ref (ad 16))]) hx hb dL_press_5 rfl hl (by decide) rfl (fun ls hl => ?_)
      refine lv_ldc (v := (-99999)) hx hb hown (hts (.constant RL 16 (-99999)) (by decide +kernel)) dL_press_6 ?_
      cases hf
      exact hR _ _ _ _ _ _ _ _ rfl rfl hP hD hS (Nat.le_of_ble_eq_true rfl) (Nat.le_of_ble_eq_true rfl) dL_press_8
    have hf := ite_f c_2 hf
    exact nomatch hf
  · rw [hz] at hf
    have hf := sm_l hf
    cases hf
    exact hR _ _ _ _ _ _ _ _ rfl rfl hP hD hS (Nat.le_of_ble_eq_true rfl) (Nat.le_of_ble_eq_true rfl) dL_press_4
def f_L_mend (N : Nat) (size : Int32) (rc : Int32) (g : Nat → Int32) (fs : Nat → Int32) (st : Nat → Int32) (ln : Nat → Int32) (su : Nat → Int32) (rr : Nat → Int32) (cr : Nat → Int32) (bc : Int32) (bl : Nat → Int32) (td : Nat → Int32) (fi : Nat → Int32) (fa : Nat → Int32) : Option (Int32 × (Nat → Int32) × Int32 × (Nat → Int32) × (Nat → Int32) × (Nat → Int32) × (Nat → Int32)) :=
  (f_X3_mend N size rc g fs st ln su rr cr bc bl td fi fa).bind fun x1 => sm x1 (fun y1 => some (y1.1, y1.2.1, y1.2.2.1, y1.2.2.2.1, y1.2.2.2.2.1, y1.2.2.2.2.2.1, y1.2.2.2.2.2.2)) (fun z1 => (if z1.1 = 2 then some ((-99999), z1.2.1, z1.2.2.1, z1.2.2.2.1, z1.2.2.2.2.1, z1.2.2.2.2.2.1, z1.2.2.2.2.2.2) else none))
def rm_L_mend : Room := { frames := 9, cells := 1, slots := 6, locals := 222 }
set_option maxRecDepth 100000 in
set_option maxHeartbeats 16000000 in
theorem K_L_mend (l : Launch) (hst : l.stackTraces = false) (D : va_G) (cI cZ : ClassId) (ad : Nat → Nat) (sz : Nat) (N : Nat) (size rc : Int32) (g fs st ln su rr cr : Nat → Int32) (bc : Int32) (bl td fi fa : Nat → Int32) (tk gr : Int32) (se sr : Nat → Int32) (r : (Int32 × (Nat → Int32) × Int32 × (Nat → Int32) × (Nat → Int32) × (Nat → Int32) × (Nat → Int32))) (hf : f_L_mend N size rc g fs st ln su rr cr bc bl td fi fa = some r) : Met l yL_mend wsL_mend rm_L_mend (PL D cI cZ sz [.ref (ad 16)] (wG cI ad size rc g fs st ln su rr cr bc bl td fi fa tk gr se sr)) (QI D cI cZ sz (wG cI ad size rc g fs st ln su rr cr bc bl td fi fa tk gr se sr) r.1 (wG cI ad size rc r.2.1 fs st ln su rr cr r.2.2.1 r.2.2.2.1 r.2.2.2.2.1 r.2.2.2.2.2.1 r.2.2.2.2.2.2 tk gr se sr)) 1 6 (va_A (wG cI ad size rc g fs st ln su rr cr bc bl td fi fa tk gr se sr) sz) := by
  refine mkl_i (cc := cL_mend) (maxL := 2) (lv0 := [(0, .ref (ad 16))]) (hh := [(0, 4, 5, 31)]) rfl (by decide) rfl (Nat.le_of_ble_eq_true rfl) rfl ?_
  intro p e s m args below meth c ls A Q H hx hb hml hown hts hK hXS hNC hP hD hA hS hl htab hR
  rw [f_L_mend] at hf
  refine lv_aload_n hx hb dL_mend_0 rfl (lv_at hl 0 rfl) ?_
  obtain ⟨x1, hy1, hf⟩ := Option.bind_eq_some_iff.mp hf
  refine clX_i (As := []) (rest := []) (fun (u : Int32 × (Nat → Int32) × Int32 × (Nat → Int32) × (Nat → Int32) × (Nat → Int32) × (Nat → Int32)) => u.1) (fun (u : Int32 × (Nat → Int32) × Int32 × (Nat → Int32) × (Nat → Int32) × (Nat → Int32) × (Nat → Int32)) => wG cI ad size rc u.2.1 fs st ln su rr cr u.2.2.1 u.2.2.2.1 u.2.2.2.2.1 u.2.2.2.2.2.1 u.2.2.2.2.2.2 tk gr se sr) (fun (u : Nat × (Nat → Int32) × Int32 × (Nat → Int32) × (Nat → Int32) × (Nat → Int32) × (Nat → Int32)) => u.1) (fun (u : Nat × (Nat → Int32) × Int32 × (Nat → Int32) × (Nat → Int32) × (Nat → Int32) × (Nat → Int32)) => wG cI ad size rc u.2.1 fs st ln su rr cr u.2.2.1 u.2.2.2.1 u.2.2.2.2.1 u.2.2.2.2.2.1 u.2.2.2.2.2.2 tk gr se sr) (fun (u : Int32 × (Nat → Int32) × Int32 × (Nat → Int32) × (Nat → Int32) × (Nat → Int32) × (Nat → Int32)) => wG cI ad size rc u.2.1 fs st ln su rr cr u.2.2.1 u.2.2.2.1 u.2.2.2.2.1 u.2.2.2.2.2.1 u.2.2.2.2.2.2 tk gr se sr) (fun (u : Nat × (Nat → Int32) × Int32 × (Nat → Int32) × (Nat → Int32) × (Nat → Int32) × (Nat → Int32)) => wG cI ad size rc u.2.1 fs st ln su rr cr u.2.2.1 u.2.2.2.1 u.2.2.2.2.1 u.2.2.2.2.2.1 u.2.2.2.2.2.2 tk gr se sr) ⟨hx, hb, hml, hown, hts⟩ (K_X3_mend l hst D cI cZ ad H.size N size rc g fs st ln su rr cr bc bl td fi fa tk gr se sr _ hy1) (cwV 0 hts gL_mend_X3_mend rfl rfl rfl (by decide +kernel) ⟨Nat.le_of_ble_eq_true rfl, Nat.le_of_ble_eq_true rfl⟩) hK hXS hP hD hS hA hl.1 [0, 1, 2, 3, 4, 5, 6, 7, 8, 9, 10, 11, 12, 13, 14, 15, 16] (by decide) rfl (fun _ => rfl) (fun _ => rfl) (fun _ => rfl) (fun _ => rfl) 3 16 rfl rfl rfl rfl rfl (Nat.le_of_ble_eq_true rfl) dL_mend_1 ⟨Nat.le_of_ble_eq_true rfl, Nat.le_of_ble_eq_true rfl⟩ (fun z1 hz E ce q9 H locs hE hP hD hS hq hv hc => ?_) (fun y1 hz H locs hP hD hS => ?_)
  · rw [hz] at hf
    have hf := sm_r hf
    rcases Decidable.em (z1.1 = 2) with c_2 | c_2
    · have hf := ite_t c_2 hf
      have hE : E = eS := by rw [hE, c_2]; rfl
      subst hE
      refine vx_catch (own := RL) (name := eS) hown [] ⟨0, 4, 5, 31⟩ [] htab (fun z hz => nomatch hz) rfl (by decide) (hts (.classLink RL 31 eS) (by decide +kernel)) (va_Nw.use rfl (hXS.2.2.2 (.castable eS eS) (by decide +kernel))) hq hv hc ?_
      refine lv_astore_n (x := q9) (lv' := [(1, .ref q9), (0, .ref (ad 16))]) hx hb dL_mend_5 rfl hl (by decide) rfl (fun ls hl => ?_)
      refine lv_ldc (v := (-99999)) hx hb hown (hts (.constant RL 16 (-99999)) (by decide +kernel)) dL_mend_6 ?_
      cases hf
      exact hR _ _ _ _ _ _ _ _ rfl rfl hP hD hS (Nat.le_of_ble_eq_true rfl) (Nat.le_of_ble_eq_true rfl) dL_mend_8
    have hf := ite_f c_2 hf
    exact nomatch hf
  · rw [hz] at hf
    have hf := sm_l hf
    cases hf
    exact hR _ _ _ _ _ _ _ _ rfl rfl hP hD hS (Nat.le_of_ble_eq_true rfl) (Nat.le_of_ble_eq_true rfl) dL_mend_4
def f_L_digit (size : Int32) (g : Nat → Int32) (p1 : Int32) : Option (Int32) :=
  (f_X3_digit size g p1).bind fun x2 => sm x2 (fun y2 => some y2) (fun z2 => (if z2 = 3 then some (-2) else none))
def rm_L_digit : Room := { frames := 10, cells := 1, slots := 6, locals := 242 }
set_option maxRecDepth 100000 in
set_option maxHeartbeats 16000000 in
theorem K_L_digit (l : Launch) (hst : l.stackTraces = false) (D : va_G) (cI cZ : ClassId) (ad : Nat → Nat) (sz : Nat) (size rc : Int32) (g fs st ln su rr cr : Nat → Int32) (bc : Int32) (bl td fi fa : Nat → Int32) (tk gr : Int32) (se sr : Nat → Int32) (p1 : Int32) (r : (Int32)) (hf : f_L_digit size g p1 = some r) : Met l yL_digit wsL_digit rm_L_digit (PL D cI cZ sz [.ref (ad 16), .int p1] (wG cI ad size rc g fs st ln su rr cr bc bl td fi fa tk gr se sr)) (QI D cI cZ sz (wG cI ad size rc g fs st ln su rr cr bc bl td fi fa tk gr se sr) r (wG cI ad size rc g fs st ln su rr cr bc bl td fi fa tk gr se sr)) 1 6 (va_A (wG cI ad size rc g fs st ln su rr cr bc bl td fi fa tk gr se sr) sz) := by
  refine mkl_i (cc := cL_digit) (maxL := 3) (lv0 := [(0, .ref (ad 16)), (1, .int p1)]) (hh := [(0, 5, 6, 21)]) rfl (by decide) rfl (Nat.le_of_ble_eq_true rfl) rfl ?_
  intro p e s m args below meth c ls A Q H hx hb hml hown hts hK hXS hNC hP hD hA hS hl htab hR
  rw [f_L_digit] at hf
  refine lv_aload_n hx hb dL_digit_0 rfl (lv_at hl 0 rfl) ?_
  refine lv_iload_n hx hb dL_digit_1 rfl (lv_at hl 1 rfl) ?_
  obtain ⟨x2, hy2, hf⟩ := Option.bind_eq_some_iff.mp hf
  refine clX_i (As := [.int p1]) (rest := []) (fun (u : Int32) => u) (fun (u : Int32) => wG cI ad size rc g fs st ln su rr cr bc bl td fi fa tk gr se sr) (fun (u : Nat) => u) (fun (u : Nat) => wG cI ad size rc g fs st ln su rr cr bc bl td fi fa tk gr se sr) (fun (u : Int32) => wG cI ad size rc g fs st ln su rr cr bc bl td fi fa tk gr se sr) (fun (u : Nat) => wG cI ad size rc g fs st ln su rr cr bc bl td fi fa tk gr se sr) ⟨hx, hb, hml, hown, hts⟩ (K_X3_digit l hst D cI cZ ad H.size size rc g fs st ln su rr cr bc bl td fi fa tk gr se sr p1 _ hy2) (cwV 1 hts gL_digit_X3_digit rfl rfl rfl (by decide +kernel) ⟨Nat.le_of_ble_eq_true rfl, Nat.le_of_ble_eq_true rfl⟩) hK hXS hP hD hS hA hl.1 [0, 1, 2, 3, 4, 5, 6, 7, 8, 9, 10, 11, 12, 13, 14, 15, 16] (by decide) rfl (fun _ => rfl) (fun _ => rfl) (fun _ => rfl) (fun _ => rfl) 3 16 rfl rfl rfl rfl rfl (Nat.le_of_ble_eq_true rfl) dL_digit_2 ⟨Nat.le_of_ble_eq_true rfl, Nat.le_of_ble_eq_true rfl⟩ (fun z2 hz E ce q9 H locs hE hP hD hS hq hv hc => ?_) (fun y2 hz H locs hP hD hS => ?_)
  · rw [hz] at hf
    have hf := sm_r hf
    rcases Decidable.em (z2 = 3) with c_3 | c_3
    · have hf := ite_t c_3 hf
      have hE : E = eB := by rw [hE, c_3]; rfl
      subst hE
      refine vx_catch (own := RL) (name := eB) hown [] ⟨0, 5, 6, 21⟩ [] htab (fun z hz => nomatch hz) rfl (by decide) (hts (.classLink RL 21 eB) (by decide +kernel)) (va_Nw.use rfl (hXS.2.2.2 (.castable eB eB) (by decide +kernel))) hq hv hc ?_
      refine lv_astore_n (x := q9) (lv' := [(2, .ref q9), (0, .ref (ad 16)), (1, .int p1)]) hx hb dL_digit_6 rfl hl (by decide) rfl (fun ls hl => ?_)
      refine lv_bipush (v := (-2)) hx hb dL_digit_7 (by decide) ?_
      cases hf
      exact hR _ _ _ _ _ _ _ _ rfl rfl hP hD hS (Nat.le_of_ble_eq_true rfl) (Nat.le_of_ble_eq_true rfl) dL_digit_9
    have hf := ite_f c_3 hf
    exact nomatch hf
  · rw [hz] at hf
    have hf := sm_l hf
    cases hf
    exact hR _ _ _ _ _ _ _ _ rfl rfl hP hD hS (Nat.le_of_ble_eq_true rfl) (Nat.le_of_ble_eq_true rfl) dL_digit_5
def f_L_candidates (N : Nat) (size : Int32) (rc : Int32) (g : Nat → Int32) (fs : Nat → Int32) (st : Nat → Int32) (ln : Nat → Int32) (su : Nat → Int32) (tk : Int32) (gr : Int32) (se : Nat → Int32) (sr : Nat → Int32) (p1 : Int32) (p2 : Int32) : Option (Int32 × Int32 × Int32 × (Nat → Int32) × (Nat → Int32)) :=
  (f_X3_candidates N size rc g fs st ln su tk gr se sr p1 p2).bind fun x3 => sm x3 (fun y3 => some (y3.1, y3.2.1, y3.2.2.1, y3.2.2.2.1, y3.2.2.2.2)) (fun z3 => (if z3.1 = 3 then some ((-2), z3.2.1, z3.2.2.1, z3.2.2.2.1, z3.2.2.2.2) else if z3.1 = 1 then some ((-99999), z3.2.1, z3.2.2.1, z3.2.2.2.1, z3.2.2.2.2) else none))
def rm_L_candidates : Room := { frames := 11, cells := 2, slots := 12, locals := 600 }
set_option maxRecDepth 100000 in
set_option maxHeartbeats 16000000 in
theorem K_L_candidates (l : Launch) (hst : l.stackTraces = false) (D : va_G) (cI cZ : ClassId) (ad : Nat → Nat) (sz : Nat) (N : Nat) (size rc : Int32) (g fs st ln su rr cr : Nat → Int32) (bc : Int32) (bl td fi fa : Nat → Int32) (tk gr : Int32) (se sr : Nat → Int32) (p1 : Int32) (p2 : Int32) (r : (Int32 × Int32 × Int32 × (Nat → Int32) × (Nat → Int32))) (hf : f_L_candidates N size rc g fs st ln su tk gr se sr p1 p2 = some r) : Met l yL_candidates wsL_candidates rm_L_candidates (PL D cI cZ sz [.ref (ad 16), .int p1, .int p2] (wG cI ad size rc g fs st ln su rr cr bc bl td fi fa tk gr se sr)) (QI D cI cZ sz (wG cI ad size rc g fs st ln su rr cr bc bl td fi fa tk gr se sr) r.1 (wG cI ad size rc g fs st ln su rr cr bc bl td fi fa r.2.1 r.2.2.1 r.2.2.2.1 r.2.2.2.2)) 2 12 (va_A (wG cI ad size rc g fs st ln su rr cr bc bl td fi fa tk gr se sr) sz) := by
  refine mkl_i (cc := cL_candidates) (maxL := 4) (lv0 := [(0, .ref (ad 16)), (1, .int p1), (2, .int p2)]) (hh := [(0, 6, 7, 21), (0, 6, 11, 14)]) rfl (by decide) rfl (Nat.le_of_ble_eq_true rfl) rfl ?_
  intro p e s m args below meth c ls A Q H hx hb hml hown hts hK hXS hNC hP hD hA hS hl htab hR
  rw [f_L_candidates] at hf
  refine lv_aload_n hx hb dL_candidates_0 rfl (lv_at hl 0 rfl) ?_
  refine lv_iload_n hx hb dL_candidates_1 rfl (lv_at hl 1 rfl) ?_
  refine lv_iload_n hx hb dL_candidates_2 rfl (lv_at hl 2 rfl) ?_
  obtain ⟨x3, hy3, hf⟩ := Option.bind_eq_some_iff.mp hf
  refine clX_i (As := [.int p1, .int p2]) (rest := []) (fun (u : Int32 × Int32 × Int32 × (Nat → Int32) × (Nat → Int32)) => u.1) (fun (u : Int32 × Int32 × Int32 × (Nat → Int32) × (Nat → Int32)) => wG cI ad size rc g fs st ln su rr cr bc bl td fi fa u.2.1 u.2.2.1 u.2.2.2.1 u.2.2.2.2) (fun (u : Nat × Int32 × Int32 × (Nat → Int32) × (Nat → Int32)) => u.1) (fun (u : Nat × Int32 × Int32 × (Nat → Int32) × (Nat → Int32)) => wG cI ad size rc g fs st ln su rr cr bc bl td fi fa u.2.1 u.2.2.1 u.2.2.2.1 u.2.2.2.2) (fun (u : Int32 × Int32 × Int32 × (Nat → Int32) × (Nat → Int32)) => wG cI ad size rc g fs st ln su rr cr bc bl td fi fa u.2.1 u.2.2.1 u.2.2.2.1 u.2.2.2.2) (fun (u : Nat × Int32 × Int32 × (Nat → Int32) × (Nat → Int32)) => wG cI ad size rc g fs st ln su rr cr bc bl td fi fa u.2.1 u.2.2.1 u.2.2.2.1 u.2.2.2.2) ⟨hx, hb, hml, hown, hts⟩ (K_X3_candidates l hst D cI cZ ad H.size N size rc g fs st ln su rr cr bc bl td fi fa tk gr se sr p1 p2 _ hy3) (cwV 2 hts gL_candidates_X3_candidates rfl rfl rfl (by decide +kernel) ⟨Nat.le_of_ble_eq_true rfl, Nat.le_of_ble_eq_true rfl⟩) hK hXS hP hD hS hA hl.1 [0, 1, 2, 3, 4, 5, 6, 7, 8, 9, 10, 11, 12, 13, 14, 15, 16] (by decide) rfl (fun _ => rfl) (fun _ => rfl) (fun _ => rfl) (fun _ => rfl) 3 16 rfl rfl rfl rfl rfl (Nat.le_of_ble_eq_true rfl) dL_candidates_3 ⟨Nat.le_of_ble_eq_true rfl, Nat.le_of_ble_eq_true rfl⟩ (fun z3 hz E ce q9 H locs hE hP hD hS hq hv hc => ?_) (fun y3 hz H locs hP hD hS => ?_)
  · rw [hz] at hf
    have hf := sm_r hf
    rcases Decidable.em (z3.1 = 3) with c_3 | c_3
    · have hf := ite_t c_3 hf
      have hE : E = eB := by rw [hE, c_3]; rfl
      subst hE
      refine vx_catch (own := RL) (name := eB) hown [] ⟨0, 6, 7, 21⟩ [⟨0, 6, 11, 14⟩] htab (fun z hz => nomatch hz) rfl (by decide) (hts (.classLink RL 21 eB) (by decide +kernel)) (va_Nw.use rfl (hXS.2.2.2 (.castable eB eB) (by decide +kernel))) hq hv hc ?_
      refine lv_astore_n (x := q9) (lv' := [(3, .ref q9), (0, .ref (ad 16)), (1, .int p1), (2, .int p2)]) hx hb dL_candidates_7 rfl hl (by decide) rfl (fun ls hl => ?_)
      refine lv_bipush (v := (-2)) hx hb dL_candidates_8 (by decide) ?_
      cases hf
      exact hR _ _ _ _ _ _ _ _ rfl rfl hP hD hS (Nat.le_of_ble_eq_true rfl) (Nat.le_of_ble_eq_true rfl) dL_candidates_10
    have hf := ite_f c_3 hf
    rcases Decidable.em (z3.1 = 1) with c_1 | c_1
    · have hf := ite_t c_1 hf
      have hE : E = eA := by rw [hE, c_1]; rfl
      subst hE
      refine vx_catch (own := RL) (name := eA) hown [⟨0, 6, 7, 21⟩] ⟨0, 6, 11, 14⟩ [] htab (fun z hz => by rw [List.mem_singleton] at hz; subst hz; exact Or.inr ⟨by decide, eB, hts (.classLink RL 21 eB) (by decide +kernel), hNC.1⟩) rfl (by decide) (hts (.classLink RL 14 eA) (by decide +kernel)) (va_Nw.use rfl (hXS.2.2.2 (.castable eA eA) (by decide +kernel))) hq hv hc ?_
      refine lv_astore_n (x := q9) (lv' := [(3, .ref q9), (0, .ref (ad 16)), (1, .int p1), (2, .int p2)]) hx hb dL_candidates_11 rfl hl (by decide) rfl (fun ls hl => ?_)
      refine lv_ldc (v := (-99999)) hx hb hown (hts (.constant RL 16 (-99999)) (by decide +kernel)) dL_candidates_12 ?_
      cases hf
      exact hR _ _ _ _ _ _ _ _ rfl rfl hP hD hS (Nat.le_of_ble_eq_true rfl) (Nat.le_of_ble_eq_true rfl) dL_candidates_14
    have hf := ite_f c_1 hf
    exact nomatch hf
  · rw [hz] at hf
    have hf := sm_l hf
    cases hf
    exact hR _ _ _ _ _ _ _ _ rfl rfl hP hD hS (Nat.le_of_ble_eq_true rfl) (Nat.le_of_ble_eq_true rfl) dL_candidates_6
def f_L_byAll (N : Nat) (size : Int32) (rc : Int32) (g : Nat → Int32) (fs : Nat → Int32) (st : Nat → Int32) (ln : Nat → Int32) (su : Nat → Int32) (bc : Int32) (bl : Nat → Int32) (td : Nat → Int32) (fi : Nat → Int32) : Option (Int32 × Int32 × (Nat → Int32) × (Nat → Int32) × (Nat → Int32)) :=
  (f_X3_answersByAll N size rc g fs st ln su bc bl td fi).bind fun x1 => sm x1 (fun y1 => some (y1.1, y1.2.1, y1.2.2.1, y1.2.2.2.1, y1.2.2.2.2)) (fun z1 => (if z1.1 = 2 then some ((-1), z1.2.1, z1.2.2.1, z1.2.2.2.1, z1.2.2.2.2) else none))
def rm_L_byAll : Room := { frames := 9, cells := 1, slots := 6, locals := 220 }
set_option maxRecDepth 100000 in
set_option maxHeartbeats 16000000 in
theorem K_L_byAll (l : Launch) (hst : l.stackTraces = false) (D : va_G) (cI cZ : ClassId) (ad : Nat → Nat) (sz : Nat) (N : Nat) (size rc : Int32) (g fs st ln su rr cr : Nat → Int32) (bc : Int32) (bl td fi fa : Nat → Int32) (tk gr : Int32) (se sr : Nat → Int32) (r : (Int32 × Int32 × (Nat → Int32) × (Nat → Int32) × (Nat → Int32))) (hf : f_L_byAll N size rc g fs st ln su bc bl td fi = some r) : Met l yL_byAll wsL_byAll rm_L_byAll (PL D cI cZ sz [.ref (ad 16)] (wG cI ad size rc g fs st ln su rr cr bc bl td fi fa tk gr se sr)) (QI D cI cZ sz (wG cI ad size rc g fs st ln su rr cr bc bl td fi fa tk gr se sr) r.1 (wG cI ad size rc g fs st ln su rr cr r.2.1 r.2.2.1 r.2.2.2.1 r.2.2.2.2 fa tk gr se sr)) 1 6 (va_A (wG cI ad size rc g fs st ln su rr cr bc bl td fi fa tk gr se sr) sz) := by
  refine mkl_i (cc := cL_byAll) (maxL := 2) (lv0 := [(0, .ref (ad 16))]) (hh := [(0, 4, 5, 31)]) rfl (by decide) rfl (Nat.le_of_ble_eq_true rfl) rfl ?_
  intro p e s m args below meth c ls A Q H hx hb hml hown hts hK hXS hNC hP hD hA hS hl htab hR
  rw [f_L_byAll] at hf
  refine lv_aload_n hx hb dL_byAll_0 rfl (lv_at hl 0 rfl) ?_
  obtain ⟨x1, hy1, hf⟩ := Option.bind_eq_some_iff.mp hf
  refine clX_i (As := []) (rest := []) (fun (u : Int32 × Int32 × (Nat → Int32) × (Nat → Int32) × (Nat → Int32)) => u.1) (fun (u : Int32 × Int32 × (Nat → Int32) × (Nat → Int32) × (Nat → Int32)) => wG cI ad size rc g fs st ln su rr cr u.2.1 u.2.2.1 u.2.2.2.1 u.2.2.2.2 fa tk gr se sr) (fun (u : Nat × Int32 × (Nat → Int32) × (Nat → Int32) × (Nat → Int32)) => u.1) (fun (u : Nat × Int32 × (Nat → Int32) × (Nat → Int32) × (Nat → Int32)) => wG cI ad size rc g fs st ln su rr cr u.2.1 u.2.2.1 u.2.2.2.1 u.2.2.2.2 fa tk gr se sr) (fun (u : Int32 × Int32 × (Nat → Int32) × (Nat → Int32) × (Nat → Int32)) => wG cI ad size rc g fs st ln su rr cr u.2.1 u.2.2.1 u.2.2.2.1 u.2.2.2.2 fa tk gr se sr) (fun (u : Nat × Int32 × (Nat → Int32) × (Nat → Int32) × (Nat → Int32)) => wG cI ad size rc g fs st ln su rr cr u.2.1 u.2.2.1 u.2.2.2.1 u.2.2.2.2 fa tk gr se sr) ⟨hx, hb, hml, hown, hts⟩ (K_X3_answersByAll l hst D cI cZ ad H.size N size rc g fs st ln su rr cr bc bl td fi fa tk gr se sr _ hy1) (cwV 0 hts gL_byAll_X3_answersByAll rfl rfl rfl (by decide +kernel) ⟨Nat.le_of_ble_eq_true rfl, Nat.le_of_ble_eq_true rfl⟩) hK hXS hP hD hS hA hl.1 [0, 1, 2, 3, 4, 5, 6, 7, 8, 9, 10, 11, 12, 13, 14, 15, 16] (by decide) rfl (fun _ => rfl) (fun _ => rfl) (fun _ => rfl) (fun _ => rfl) 3 16 rfl rfl rfl rfl rfl (Nat.le_of_ble_eq_true rfl) dL_byAll_1 ⟨Nat.le_of_ble_eq_true rfl, Nat.le_of_ble_eq_true rfl⟩ (fun z1 hz E ce q9 H locs hE hP hD hS hq hv hc => ?_) (fun y1 hz H locs hP hD hS => ?_)
  · rw [hz] at hf
    have hf := sm_r hf
    rcases Decidable.em (z1.1 = 2) with c_2 | c_2
    · have hf := ite_t c_2 hf
      have hE : E = eS := by rw [hE, c_2]; rfl
      subst hE
      refine vx_catch (own := RL) (name := eS) hown [] ⟨0, 4, 5, 31⟩ [] htab (fun z hz => nomatch hz) rfl (by decide) (hts (.classLink RL 31 eS) (by decide +kernel)) (va_Nw.use rfl (hXS.2.2.2 (.castable eS eS) (by decide +kernel))) hq hv hc ?_
      refine lv_astore_n (x := q9) (lv' := [(1, .ref q9), (0, .ref (ad 16))]) hx hb dL_byAll_5 rfl hl (by decide) rfl (fun ls hl => ?_)
      refine lv_iconst (v := (-1)) hx hb dL_byAll_6 (by decide) ?_
      cases hf
      exact hR _ _ _ _ _ _ _ _ rfl rfl hP hD hS (Nat.le_of_ble_eq_true rfl) (Nat.le_of_ble_eq_true rfl) dL_byAll_7
    have hf := ite_f c_2 hf
    exact nomatch hf
  · rw [hz] at hf
    have hf := sm_l hf
    cases hf
    exact hR _ _ _ _ _ _ _ _ rfl rfl hP hD hS (Nat.le_of_ble_eq_true rfl) (Nat.le_of_ble_eq_true rfl) dL_byAll_4
