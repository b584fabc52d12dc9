/-! the law, from its entry -/
theorem arr_of {args : Array Value} {s : State} {ty : FieldType} (h : (Cond.arrayClass ty).before args s = true) : ∃ cA : ClassId, ArrOfT s cA ty ∧ s.vm.findClass ("[" ++ ty.toString) = some cA := by
  obtain ⟨c, k, comp, h1, h2, h3⟩ := Cond.arrayClass_spec h
  exact ⟨c, fun n z => ⟨fun k h => (by cases h), k, h2, comp, h3⟩, h1⟩
theorem nest_in : ∀ q ∈ nestT, Cond.methodLinkNest q.1 q.2.1 q.2.2 RX3 ∈ tables_1 := by decide +kernel
theorem ngL_in : ∀ w ∈ ngL, w ∈ tables_1 := by decide +kernel
theorem str_in : ∀ q ∈ strT, Cond.stringRef RX3 q.1 q.2 ∈ tables_1 := by decide +kernel
theorem strx_in : ∀ q ∈ strT, Cond.exactly (.string RX3 q.1) "java/lang/String" ∈ flatC (Jvm.Cond.and given_1 narrow_1) := by decide +kernel
def ncL : List Cond := [Cond.not (.castable eA eB), Cond.not (.castable eS eB), Cond.not (.castable eS eA), Cond.isRef (.static Bundle.tN "UNASSIGNED_STACK" Bundle.steD), Cond.isRef (.static Bundle.tN "SUPPRESSED_SENTINEL" Bundle.listD)]
theorem nc_in : ∀ w ∈ ncL, w ∈ flatC (Jvm.Cond.and given_1 narrow_1) := by decide +kernel
def stL : List Cond := [Cond.laysStatic Bundle.tN "UNASSIGNED_STACK" Bundle.steD, Cond.laysStatic Bundle.tN "SUPPRESSED_SENTINEL" Bundle.listD, Cond.initialized Bundle.tN, Cond.arrayClass .int, Cond.instantiable RX0 9, Cond.instantiable RX1 5, Cond.instantiable RX2 6, Cond.instantiable RX3 3, Cond.classLink RL 9 RX3, Cond.initialized RX3, Cond.methodLink RL 108 yX3_init, Cond.instanceMethod yX3_init]
theorem st_in : ∀ w ∈ stL, w ∈ tables_1 := by decide +kernel
set_option maxHeartbeats 40000000 in
set_option maxRecDepth 100000 in
theorem start_of {p : Program} {e : Env} {s : State} {m : MethodId} {below : List Frame} {meth : Method} {c : Code} (l : Launch) (hflags : l.flags = flags0) {b L : Nat} (hL : L < 2 ^ 31) {xs : Nat → Int32} (C0 : lw_At p s m meth c b L xs) (N : Nat) (rB : (Int32 × Int32 × (Nat → Int32) × (Nat → Int32) × (Nat → Int32) × (Nat → Int32) × (Nat → Int32) × (Nat → Int32) × (Nat → Int32))) (hB : f_X0_clear N 0 0 (fun _ => 0) (fun _ => 0) (fun _ => 0) (fun _ => 0) (fun _ => 0) (fun _ => 0) (fun _ => 0) 3 = some rB) (hlaw : f_L_law_L18 N L xs 61 0 rB.1 rB.2.1 rB.2.2.1 rB.2.2.2.1 rB.2.2.2.2.1 rB.2.2.2.2.2.1 rB.2.2.2.2.2.2.1 rB.2.2.2.2.2.2.2.1 rB.2.2.2.2.2.2.2.2 0 (fun _ => 0) (fun _ => 0) (fun _ => 0) (fun _ => 0) 0 0 (fun _ => 0) (fun _ => 0) rB.1 rB.2.1 rB.2.2.1 rB.2.2.2.1 rB.2.2.2.2.1 rB.2.2.2.2.2.1 rB.2.2.2.2.2.2.1 rB.2.2.2.2.2.2.2.1 rB.2.2.2.2.2.2.2.2 0 (fun _ => 0) (fun _ => 0) (fun _ => 0) (fun _ => 0) = some 1) : W p l e room_1 s m #[Value.ref b] below meth c s.heap [] 0 0 (lw_Z below #[Value.ref b] s) (entryFrame m ([Value.ref b] : List Value).toArray 6) := by
  obtain ⟨hx, hb, hr, hml, hown, hts0, hX, hbl, hlocks, hgv⟩ := id C0
  have hst : l.stackTraces = false := by unfold Launch.stackTraces; rw [hflags]; decide +kernel
  have hfl := flat_of_before _ hgv
  have htt : ∀ w ∈ tables_1, w.before #[Value.ref b] s = true := fun w h => hts0 w (List.mem_append_right _ h)
  have hts : ∀ w ∈ wsL_law, w.before #[Value.ref b] s = true := fun w h => hts0 w (wsL_law_in w h)
  have hT : ∀ w : Cond, w ∈ stL → w.before #[Value.ref b] s = true := fun w h => htt w (st_in w h)
  have hA : ∀ q : Nat, s.heap.size ≤ q → (fun q : Nat => s.heap.size ≤ q) q := fun _ h => h
  have hbA : ¬ (fun q : Nat => s.heap.size ≤ q) b := Nat.not_le.mpr hbl
  obtain ⟨c0, iS0, hKn0⟩ := u_known (C := RX0) (T := TX0) (N := 9) (n := 9) hts0 inX0 (hT _ (by decide +kernel))
  obtain ⟨c1, iS1, hKn1⟩ := u_known (C := RX1) (T := TX1) (N := 5) (n := 5) hts0 inX1 (hT _ (by decide +kernel))
  obtain ⟨c2, iS2, hKn2⟩ := u_known (C := RX2) (T := TX2) (N := 6) (n := 6) hts0 inX2 (hT _ (by decide +kernel))
  obtain ⟨c3, iS3, hKn3⟩ := u_known (C := RX3) (T := TX3) (N := 3) (n := 3) hts0 inX3 (hT _ (by decide +kernel))
  obtain ⟨D, hKc⟩ : ∃ (D : va_G), ∀ (k : Nat) (q : vw_C), vwCl[k]? = some q → u_Kn s q.1 q.2.1 q.2.2 (D.1 k) (D.2 k) := by
    refine ⟨(fun k => if k = 0 then c0 else if k = 1 then c1 else if k = 2 then c2 else c3, fun k => if k = 0 then iS0 else if k = 1 then iS1 else if k = 2 then iS2 else iS3), ?_⟩
    intro k q hq
    match k, hq with
    | 0, hq => cases hq; exact hKn0
    | 1, hq => cases hq; exact hKn1
    | 2, hq => cases hq; exact hKn2
    | 3, hq => cases hq; exact hKn3
    | k + 4, hq => simp [vwCl] at hq
  obtain ⟨cI, hI1, hI2⟩ := arr_of (ty := .int) (hT _ (by decide +kernel))
  obtain ⟨cZ, hcZ⟩ : ∃ cZ : ClassId, cZ = cI := ⟨cI, rfl⟩
  have hK : KK D cI cZ s := ⟨⟨hKc, fun k q h => by
    match k, h with
    | 0, h => cases h; exact ⟨hI1, hI2⟩
    | k + 1, h => simp at h⟩, fun q hq => va_Nw.of rfl (htt _ (nest_in q hq))⟩
  have hNC : NC s := ⟨va_Nc.of (hfl _ (nc_in _ (by decide +kernel))), va_Nc.of (hfl _ (nc_in _ (by decide +kernel))), va_Nc.of (hfl _ (nc_in _ (by decide +kernel)))⟩
  have hXS : XS (fun q : Nat => s.heap.size ≤ q) s s.heap := by
    refine ⟨vx_Zqof (hT _ (by decide +kernel)) (hT _ (by decide +kernel)) (hfl _ (nc_in _ (by decide +kernel))) (fun a h => Nat.not_le.mpr h), vx_Zqof (hT _ (by decide +kernel)) (hT _ (by decide +kernel)) (hfl _ (nc_in _ (by decide +kernel))) (fun a h => Nat.not_le.mpr h), fun q hq => ?_, fun w hw => va_Nw.of (ngL_ok w hw).1 (htt w (ngL_in w hw))⟩
    obtain ⟨a, c9, cell, k9, h1, -⟩ := Cond.exactly_spec (hfl _ (strx_in q hq))
    exact ⟨a, vk_R.of (htt _ (str_in q hq)) h1⟩
  have hS : va_S (fun q : Nat => s.heap.size ≤ q) s.heap s.heap [] := va_S.rf
  have hP : va_P D vwCl [] s.heap := fun k q h => by simp at h
  have hD : va_D (fun q : Nat => s.heap.size ≤ q) [] := ⟨fun i j p q h => by simp at h, fun k q h => by simp at h⟩
  have hl := lv_entry ([.ref b]) (n := 6) (Nat.le_of_ble_eq_true rfl)
  rw [lg_entry_eq]
  generalize (lg_sl ([.ref b]) ++ List.replicate (6 - (lg_sl ([.ref b])).length) Slot.unset).toArray = ls at hl ⊢
  have hl : lv_has ls 6 [(0, .ref b)] := hl
  refine va_new (ci := 3) (fs := [.null, .null, .null]) (C := RX3) (T := TX3) (N := 3) hx hb hts0 inX3 tyX3 tyX3_ok hown (hT (.classLink RL 9 RX3) (by decide +kernel)) (hT _ (by decide +kernel)) (hT _ (by decide +kernel)) hK.1 hP hD hS hA rfl (fun j hj => by rcases (show j = 0 ∨ j = 1 ∨ j = 2 by omega) with rfl | rfl | rfl <;> rfl) (Nat.le_of_ble_eq_true rfl) (Nat.le_of_ble_eq_true rfl) dL_law_0 (fun q0 H hP hD hS => ?_)
  have hP : va_P D vwCl [(q0, .inr (3, [.null, .null, .null]))] H := hP
  have hD : va_D (fun q : Nat => s.heap.size ≤ q) [(q0, .inr (3, [.null, .null, .null]))] := hD
  refine lv_dup hx hb dL_law_3 rfl ?_
  refine clI_n (As := []) (rest := [.ref q0]) (wr := []) ⟨hx, hb, hml, hown, hts⟩ (K_X3_init l D cI cZ q0 H.size N rB hB) (cwI 0 hts gL_law_X3_init rfl rfl rfl (hT _ (by decide +kernel)) (hT (.methodLink RL 108 yX3_init) (by decide +kernel)) (hT _ (by decide +kernel)) rfl (by decide +kernel) ⟨Nat.le_of_ble_eq_true rfl, Nat.le_of_ble_eq_true rfl⟩) hK hP hD hS hA hl.1 [0] [] (by decide) rfl rfl (by decide) (by decide) rfl rfl (Nat.le_of_ble_eq_true rfl) dL_law_4 ⟨Nat.le_of_ble_eq_true rfl, Nat.le_of_ble_eq_true rfl⟩ (fun ad H locs had hP hD hS => ?_)
  rw [show q0 = ad 16 from had.symm]
  have hP : va_P D vwCl (wG cI ad rB.1 rB.2.1 rB.2.2.1 rB.2.2.2.1 rB.2.2.2.2.1 rB.2.2.2.2.2.1 rB.2.2.2.2.2.2.1 rB.2.2.2.2.2.2.2.1 rB.2.2.2.2.2.2.2.2 0 (fun _ => 0) (fun _ => 0) (fun _ => 0) (fun _ => 0) 0 0 (fun _ => 0) (fun _ => 0)) H := hP
  have hD : va_D (fun q : Nat => s.heap.size ≤ q) (wG cI ad rB.1 rB.2.1 rB.2.2.1 rB.2.2.2.1 rB.2.2.2.2.1 rB.2.2.2.2.2.1 rB.2.2.2.2.2.2.1 rB.2.2.2.2.2.2.2.1 rB.2.2.2.2.2.2.2.2 0 (fun _ => 0) (fun _ => 0) (fun _ => 0) (fun _ => 0) 0 0 (fun _ => 0) (fun _ => 0)) := hD
  refine lv_astore_n (lv' := [(1, .ref (ad 16)), (0, .ref b)]) hx hb dL_law_7 rfl hl (by decide) rfl (fun ls hl => ?_)
  refine va_new (ci := 3) (fs := [.null, .null, .null]) (C := RX3) (T := TX3) (N := 3) hx hb hts0 inX3 tyX3 tyX3_ok hown (hT (.classLink RL 9 RX3) (by decide +kernel)) (hT _ (by decide +kernel)) (hT _ (by decide +kernel)) hK.1 hP hD hS hA rfl (fun j hj => by rcases (show j = 0 ∨ j = 1 ∨ j = 2 by omega) with rfl | rfl | rfl <;> rfl) (Nat.le_of_ble_eq_true rfl) (Nat.le_of_ble_eq_true rfl) dL_law_8 (fun q1 H hP hD hS => ?_)
  have hP : va_P D vwCl (wG cI ad rB.1 rB.2.1 rB.2.2.1 rB.2.2.2.1 rB.2.2.2.2.1 rB.2.2.2.2.2.1 rB.2.2.2.2.2.2.1 rB.2.2.2.2.2.2.2.1 rB.2.2.2.2.2.2.2.2 0 (fun _ => 0) (fun _ => 0) (fun _ => 0) (fun _ => 0) 0 0 (fun _ => 0) (fun _ => 0) ++ [(q1, .inr (3, [.null, .null, .null]))]) H := hP
  have hD : va_D (fun q : Nat => s.heap.size ≤ q) (wG cI ad rB.1 rB.2.1 rB.2.2.1 rB.2.2.2.1 rB.2.2.2.2.1 rB.2.2.2.2.2.1 rB.2.2.2.2.2.2.1 rB.2.2.2.2.2.2.2.1 rB.2.2.2.2.2.2.2.2 0 (fun _ => 0) (fun _ => 0) (fun _ => 0) (fun _ => 0) 0 0 (fun _ => 0) (fun _ => 0) ++ [(q1, .inr (3, [.null, .null, .null]))]) := hD
  refine lv_dup hx hb dL_law_11 rfl ?_
  refine clI_n (As := []) (rest := [.ref q1]) (wr := wG cI ad rB.1 rB.2.1 rB.2.2.1 rB.2.2.2.1 rB.2.2.2.2.1 rB.2.2.2.2.2.1 rB.2.2.2.2.2.2.1 rB.2.2.2.2.2.2.2.1 rB.2.2.2.2.2.2.2.2 0 (fun _ => 0) (fun _ => 0) (fun _ => 0) (fun _ => 0) 0 0 (fun _ => 0) (fun _ => 0)) ⟨hx, hb, hml, hown, hts⟩ (K_X3_init l D cI cZ q1 H.size N rB hB) (cwI 0 hts gL_law_X3_init rfl rfl rfl (hT _ (by decide +kernel)) (hT (.methodLink RL 108 yX3_init) (by decide +kernel)) (hT _ (by decide +kernel)) rfl (by decide +kernel) ⟨Nat.le_of_ble_eq_true rfl, Nat.le_of_ble_eq_true rfl⟩) hK hP hD hS hA hl.1 [17] [0, 1, 2, 3, 4, 5, 6, 7, 8, 9, 10, 11, 12, 13, 14, 15, 16] (by decide) rfl rfl (by decide) (by decide) rfl rfl (Nat.le_of_ble_eq_true rfl) dL_law_12 ⟨Nat.le_of_ble_eq_true rfl, Nat.le_of_ble_eq_true rfl⟩ (fun bd H locs hbd hP hD hS => ?_)
  rw [show q1 = bd 16 from hbd.symm]
  have hP : va_P D vwCl (wGG cI ad bd rB.1 rB.2.1 rB.2.2.1 rB.2.2.2.1 rB.2.2.2.2.1 rB.2.2.2.2.2.1 rB.2.2.2.2.2.2.1 rB.2.2.2.2.2.2.2.1 rB.2.2.2.2.2.2.2.2 0 (fun _ => 0) (fun _ => 0) (fun _ => 0) (fun _ => 0) 0 0 (fun _ => 0) (fun _ => 0) rB.1 rB.2.1 rB.2.2.1 rB.2.2.2.1 rB.2.2.2.2.1 rB.2.2.2.2.2.1 rB.2.2.2.2.2.2.1 rB.2.2.2.2.2.2.2.1 rB.2.2.2.2.2.2.2.2 0 (fun _ => 0) (fun _ => 0) (fun _ => 0) (fun _ => 0) 0 0 (fun _ => 0) (fun _ => 0)) H := hP
  have hD : va_D (fun q : Nat => s.heap.size ≤ q) (wGG cI ad bd rB.1 rB.2.1 rB.2.2.1 rB.2.2.2.1 rB.2.2.2.2.1 rB.2.2.2.2.2.1 rB.2.2.2.2.2.2.1 rB.2.2.2.2.2.2.2.1 rB.2.2.2.2.2.2.2.2 0 (fun _ => 0) (fun _ => 0) (fun _ => 0) (fun _ => 0) 0 0 (fun _ => 0) (fun _ => 0) rB.1 rB.2.1 rB.2.2.1 rB.2.2.2.1 rB.2.2.2.2.1 rB.2.2.2.2.2.1 rB.2.2.2.2.2.2.1 rB.2.2.2.2.2.2.2.1 rB.2.2.2.2.2.2.2.2 0 (fun _ => 0) (fun _ => 0) (fun _ => 0) (fun _ => 0) 0 0 (fun _ => 0) (fun _ => 0)) := hD
  refine lv_astore_n (lv' := [(2, .ref (bd 16)), (1, .ref (ad 16)), (0, .ref b)]) hx hb dL_law_15 rfl hl (by decide) rfl (fun ls hl => ?_)
  refine lv_iconst (v := 0) hx hb dL_law_16 (by decide) ?_
  refine lv_istore_n (lv' := [(3, .int 0), (2, .ref (bd 16)), (1, .ref (ad 16)), (0, .ref b)]) hx hb dL_law_17 rfl hl (by decide) rfl (fun ls hl => ?_)
  refine W.widen (k := 668581 - 151 * 61) (n := 7095439 - 906 * 61) (by omega) (by omega) ?_
  exact law_loop l hst D cI cZ ad bd hL hx hb hr hml hown hts hX hbl hlocks hK hXS hNC N 0 0 (fun _ => 0) (fun _ => 0) 61 0 rB.1 rB.2.1 rB.2.2.1 rB.2.2.2.1 rB.2.2.2.2.1 rB.2.2.2.2.2.1 rB.2.2.2.2.2.2.1 rB.2.2.2.2.2.2.2.1 rB.2.2.2.2.2.2.2.2 0 (fun _ => 0) (fun _ => 0) (fun _ => 0) (fun _ => 0) 0 0 (fun _ => 0) (fun _ => 0) rB.1 rB.2.1 rB.2.2.1 rB.2.2.2.1 rB.2.2.2.2.1 rB.2.2.2.2.2.1 rB.2.2.2.2.2.2.1 rB.2.2.2.2.2.2.2.1 rB.2.2.2.2.2.2.2.2 0 (fun _ => 0) (fun _ => 0) (fun _ => 0) (fun _ => 0) (Nat.le_refl _) hlaw H _ ls hP hD hS (lv_sub hl [3, 2, 1, 0] rfl)
