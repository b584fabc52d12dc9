/-! OUR OWN ROWS: contracts over whole worlds, calls that put the callee's cells back in their places, the ends of methods -/
def nestT : List (String × Nat × MethodName) := [(RX0, 50, yX3_at), (RX0, 54, yX3_put), (RX1, 54, yX3_at), (RX1, 74, yX3_put), (RX2, 41, yX3_at), (RX2, 60, yX3_put), (RX3, 11, yX0_init)]
def KK (D : va_G) (cI cZ : ClassId) (U : State) : Prop := va_K D vwCl [(cI, .int)] U ∧ ∀ q ∈ nestT, va_Nw (.methodLinkNest q.1 q.2.1 q.2.2 RX3) U
theorem KK.same {D : va_G} {cI cZ : ClassId} {u U : State} (h : u.vm = U.vm) (k : KK D cI cZ u) : KK D cI cZ U := ⟨va_K.moved (by rw [h]; exact Vm.Alike.refl _) k.1, fun q hq => va_Nw.same rfl h (k.2 q hq)⟩
theorem KK.warm {D : va_G} {cI cZ : ClassId} {s U : State} (hW : s.WarmedH U.vm) (k : KK D cI cZ s) : KK D cI cZ U := ⟨va_K.moved hW.alike k.1, fun q hq => va_Nw.warmM hW (k.2 q hq)⟩
abbrev PC (D : va_G) (cI cZ : ClassId) (sz : Nat) (av : List Value) (w : va_W) : Array Value → State → Prop := va_Pc av (fun U => U.heap.size = sz ∧ va_P D vwCl w U.heap ∧ KK D cI cZ U ∧ va_D (fun _ => True) w)
abbrev QB (D : va_G) (cI cZ : ClassId) (A : Nat → Prop) (w1 : va_W) : Unit → State → Prop := fun _ t => va_P D vwCl w1 t.heap ∧ KK D cI cZ t ∧ va_D A w1
abbrev QI (D : va_G) (cI cZ : ClassId) (sz : Nat) (w0 : va_W) (r : Int32) (w1 : va_W) : Array Value → State → Outcome → State → Prop := va_Qi (S := Unit) (fun v _ => v = r) (QB D cI cZ (va_A w0 sz) w1) (va_A w0 sz)
abbrev QV (D : va_G) (cI cZ : ClassId) (sz : Nat) (w0 : va_W) (w1 : va_W) : Array Value → State → Outcome → State → Prop := va_Qv (S := Unit) (fun _ => True) (QB D cI cZ (va_A w0 sz) w1) (va_A w0 sz)
theorem PC_blind {D : va_G} {cI cZ : ClassId} {sz : Nat} {av : List Value} {w : va_W} : FrameBlind (PC D cI cZ sz av w) := fun _ U g mk h => ⟨h.1, h.2.1, h.2.2.1, h.2.2.2.1.same (U := U.calling g mk _) rfl, h.2.2.2.2⟩
/-! the cells of a callee, put back -/
def wsel : List Nat → va_W → Nat → (Nat × va_E) → (Nat × va_E)
  | i :: is, x :: w, k, e => match Nat.beq i k with
    | true => x
    | false => wsel is w k e
  | _, _, _, e => e
def wput (isC : List Nat) (w1 : va_W) : Nat → va_W → va_W
  | _, [] => []
  | k, e :: ws => wsel isC w1 k e :: wput isC w1 (k + 1) ws
theorem wput_at (isC : List Nat) (w1 : va_W) : ∀ (ws : va_W) (k0 k : Nat), (wput isC w1 k0 ws)[k]? = (ws[k]?).map (wsel isC w1 (k0 + k))
  | [], k0, k => by simp [wput]
  | e :: ws, k0, 0 => by simp [wput]
  | e :: ws, k0, k + 1 => by
    have h := wput_at isC w1 ws (k0 + 1) k
    simp only [wput, List.getElem?_cons_succ]
    rw [h, show k0 + 1 + k = k0 + (k + 1) by omega]
theorem wsel_or : ∀ (isC : List Nat) (w1 : va_W) (k : Nat) (e : Nat × va_E), (k ∉ (isC.zip w1).map Prod.fst ∧ wsel isC w1 k e = e) ∨ (k, wsel isC w1 k e) ∈ isC.zip w1
  | [], w1, k, e => Or.inl ⟨by simp, by cases w1 <;> rfl⟩
  | i :: is, [], k, e => Or.inl ⟨by simp, rfl⟩
  | i :: is, x :: w, k, e => by
    cases hb : Nat.beq i k with
    | true =>
      have hik : i = k := Nat.eq_of_beq_eq_true hb
      have hs : wsel (i :: is) (x :: w) k e = x := by simp only [wsel, hb]
      rw [hs, ← hik]
      exact Or.inr List.mem_cons_self
    | false =>
      have hik : i ≠ k := Nat.ne_of_beq_eq_false hb
      have hs : wsel (i :: is) (x :: w) k e = wsel is w k e := by simp only [wsel, hb]
      rw [hs]
      rcases wsel_or is w k e with ⟨h1, h2⟩ | h1
      · refine Or.inl ⟨fun hm => ?_, h2⟩
        rcases List.mem_cons.mp hm with h3 | h3
        · exact hik h3.symm
        · exact h1 h3
      · exact Or.inr (List.mem_cons_of_mem _ h1)
theorem fset_get (isC : List Nat) (w1 ws : va_W) (k : Nat) (q : Nat × va_E) (h : (wput isC w1 0 ws)[k]? = some q) : (k ∉ (isC.zip w1).map Prod.fst ∧ ws[k]? = some q) ∨ (k, q) ∈ isC.zip w1 := by
  rw [wput_at, Nat.zero_add] at h
  cases hw : ws[k]? with
  | none => rw [hw] at h; cases h
  | some e =>
    rw [hw] at h
    have h' : wsel isC w1 k e = q := Option.some.inj h
    rcases wsel_or isC w1 k e with ⟨h1, h2⟩ | h1
    · exact Or.inl ⟨h1, by rw [← h', h2]⟩
    · rw [h'] at h1; exact Or.inr h1
theorem va_back {A0 : Nat → Prop} {D : va_G} {cl : List vw_C} {ws wc w1 ws' : va_W} {H H1 : Heap} (hP : va_P D cl ws H) (hD : va_D A0 ws) (isC : List Nat) (hC : isC.map (fun i => ws[i]?) = wc.map some) (ha : w1.map Prod.fst = wc.map Prod.fst)
    (hz : wput isC w1 0 ws = ws') (hk : ∀ q : Nat, q < H.size → ¬ va_A wc H.size q → H1[q]? = H[q]?) (hP1 : va_P D cl w1 H1) : va_P D cl ws' H1 ∧ va_D A0 ws' := by
  have hl1 : isC.length = wc.length := by have := congrArg List.length hC; simpa using this
  have hl2 : w1.length = wc.length := by have := congrArg List.length ha; simpa using this
  have hfst : (isC.zip w1).map Prod.fst = isC := List.map_fst_zip (by omega)
  have atC : ∀ (j i : Nat), isC[j]? = some i → ∀ q, w1[j]? = some q → ∃ q0, ws[i]? = some q0 ∧ q0.1 = q.1 ∧ wc[j]? = some q0 := by
    intro j i hi q hq
    have h1 : (isC.map (fun i => ws[i]?))[j]? = (wc.map some)[j]? := by rw [hC]
    rw [List.getElem?_map, List.getElem?_map, hi] at h1
    have h2 : (w1.map Prod.fst)[j]? = (wc.map Prod.fst)[j]? := by rw [ha]
    rw [List.getElem?_map, List.getElem?_map, hq] at h2
    cases hw : wc[j]? with
    | none => rw [hw] at h2; cases h2
    | some q0 =>
      rw [hw] at h1 h2
      exact ⟨q0, Option.some.inj h1, (Option.some.inj h2).symm, rfl⟩
  have inZ : ∀ (k : Nat) (q : Nat × va_E), (k, q) ∈ isC.zip w1 → ∃ j : Nat, isC[j]? = some k ∧ w1[j]? = some q := by
    intro k q hm
    obtain ⟨j, hj⟩ := List.getElem?_of_mem hm
    rw [List.getElem?_zip_eq_some] at hj
    exact ⟨j, hj⟩
  subst hz
  refine ⟨fun k q hq => ?_, fun i j x y hi hj hxy => ?_, fun k q hq => ?_⟩
  · rcases fset_get _ _ _ _ _ hq with ⟨h1, h2⟩ | h1
    · rw [hfst] at h1
      have hlt := (hP k q h2).lt
      refine (hP k q h2).kept (hk q.1 hlt fun hA => ?_)
      rcases hA with ⟨k2, e, h⟩ | h
      · have h3 : (isC.map (fun i => ws[i]?))[k2]? = some (some (q.1, e)) := by rw [hC, List.getElem?_map, h]; rfl
        rw [List.getElem?_map] at h3
        cases hi : isC[k2]? with
        | none => rw [hi] at h3; cases h3
        | some i =>
          rw [hi] at h3
          have h4 := hD.1 k i q (q.1, e) h2 (Option.some.inj h3) rfl
          subst h4
          exact h1 (List.mem_of_getElem? hi)
      · omega
    · obtain ⟨j, -, h3⟩ := inZ k q h1
      exact hP1 j q h3
  · have key : ∀ (k : Nat) (q : Nat × va_E), (wput isC w1 0 ws)[k]? = some q → ∃ q0, ws[k]? = some q0 ∧ q0.1 = q.1 := by
      intro k q hq
      rcases fset_get _ _ _ _ _ hq with ⟨h1, h2⟩ | h1
      · exact ⟨q, h2, rfl⟩
      · obtain ⟨j, h3, h4⟩ := inZ k q h1
        obtain ⟨q0, g1, g2, -⟩ := atC j k h3 q h4
        exact ⟨q0, g1, g2⟩
    obtain ⟨x0, a1, a2⟩ := key i x hi
    obtain ⟨y0, b1, b2⟩ := key j y hj
    exact hD.1 i j x0 y0 a1 b1 (a2.trans (hxy.trans b2.symm))
  · rcases fset_get _ _ _ _ _ hq with ⟨h1, h2⟩ | h1
    · exact hD.2 k q h2
    · obtain ⟨j, h3, h4⟩ := inZ k q h1
      obtain ⟨q0, g1, g2, -⟩ := atC j k h3 q h4
      rw [← g2]
      exact hD.2 k q0 g1
section CLS
variable {p : Program} {l : Launch} {e : Env} {R : Room} {s : State} {m : MethodId} {args : Array Value} {below : List Frame} {meth : Method} {c : Code} {H : Heap} {locs : List Loc} {cells slots : Nat} {Q : State → Prop}
variable {pc : Nat} {ls : Array Slot} {rest st0 : List Value} {A0 : Nat → Prop} {y : MethodName} {bytes cc : ByteArray} {maxL nL n index mc ms : Nat} {ret : Option FieldType} {wsy : List Cond} {rm : Room} {Ts : List Cond} {own C host : String} {b : Addr} {As : List Value}
variable {D : va_G} {cI cZ : ClassId} {ws wc w1 : va_W} {r : Int32}
theorem pc_pre (hK : KK D cI cZ s) (hP : va_P D vwCl ws H) {A0 : Nat → Prop} (hD : va_D A0 ws) (isC : List Nat) (hn : va_nd isC = true) (hC : isC.map (fun i => ws[i]?) = wc.map some) {av : List Value} :
    ∀ U : State, U.heap = H → s.WarmedH U.vm → PC D cI cZ H.size av wc av.toArray U := by
  intro U hU hW
  have hf : isC.filterMap (fun i => ws[i]?) = wc := by
    have h1 : (isC.map (fun i => ws[i]?)).filterMap id = (wc.map some).filterMap id := by rw [hC]
    rw [List.filterMap_map, List.filterMap_map] at h1
    simpa [Function.comp_def] using h1
  exact ⟨rfl, by rw [hU], by rw [hU]; exact hP.sub isC hf, hK.warm hW, (hD.sub isC hn hC).weaken (fun _ _ _ _ => trivial)⟩
/-- behind a call with an int: the callee's cells are put back -/
theorem cl_run_i (ws' : va_W) (hr : va_Run p l e R s m args below meth c H locs cells slots mc ms (F0 m pc ls st0) rest (QI D cI cZ H.size wc r w1 (As.toArray)) (va_A wc H.size))
    (hP : va_P D vwCl ws H) (hD : va_D A0 ws) (hS : va_S A0 s.heap H locs) (hA : ∀ q, s.heap.size ≤ q → A0 q) (isC : List Nat) (hC : isC.map (fun i => ws[i]?) = wc.map some) (ha : w1.map Prod.fst = wc.map Prod.fst)
    (hz : wput isC w1 0 ws = ws')
    (kk : ∀ (H1 : Heap) (locs1 : List Loc), va_P D vwCl ws' H1 → va_D A0 ws' → va_S A0 s.heap H1 locs1 → W p l e R s m args below meth c H1 locs1 (cells + mc) (slots + ms) Q (F0 m (pc + 3) ls (.int r :: rest))) : W p l e R s m args below meth c H locs cells slots Q (F0 m pc ls st0) := by
  have hF := va_free hD hS hA isC hC
  refine va_calli hr hS (fun q _ h => hF q h) hF (fun r' u t H1 locs1 ht hvm hw hB hz1 hk1 hS1 => ?_)
  have hw' : r' = r := hw
  subst hw'
  have hP1 : va_P D vwCl w1 H1 := by rw [← ht]; exact hB.1
  obtain ⟨g1, g2⟩ := va_back hP hD isC hC ha hz hk1 hP1
  exact kk H1 locs1 g1 g2 hS1
theorem cl_run_v (ws' : va_W) (hr : va_Run p l e R s m args below meth c H locs cells slots mc ms (F0 m pc ls st0) rest (QV D cI cZ H.size wc w1 (As.toArray)) (va_A wc H.size))
    (hP : va_P D vwCl ws H) (hD : va_D A0 ws) (hS : va_S A0 s.heap H locs) (hA : ∀ q, s.heap.size ≤ q → A0 q) (isC : List Nat) (hC : isC.map (fun i => ws[i]?) = wc.map some) (ha : w1.map Prod.fst = wc.map Prod.fst)
    (hz : wput isC w1 0 ws = ws')
    (kk : ∀ (H1 : Heap) (locs1 : List Loc), va_P D vwCl ws' H1 → va_D A0 ws' → va_S A0 s.heap H1 locs1 → W p l e R s m args below meth c H1 locs1 (cells + mc) (slots + ms) Q (F0 m (pc + 3) ls rest)) : W p l e R s m args below meth c H locs cells slots Q (F0 m pc ls st0) := by
  have hF := va_free hD hS hA isC hC
  refine va_callv hr hS (fun q _ h => hF q h) hF (fun u t H1 locs1 ht hvm hw hB hz1 hk1 hS1 => ?_)
  have hP1 : va_P D vwCl w1 H1 := by rw [← ht]; exact hB.1
  obtain ⟨g1, g2⟩ := va_back hP hD isC hC ha hz hk1 hP1
  exact kk H1 locs1 g1 g2 hS1
/-- invokevirtual of a method that answers an int -/
theorem clV_i (ws' : va_W) (S : CallFix p m c cc nL s args Ts own) (hM : Met l y wsy rm (PC D cI cZ H.size (.ref b :: As) wc) (QI D cI cZ H.size wc r w1) mc ms (va_A wc H.size)) (cw : CallW R s args own C index y bytes maxL ret wsy rm mc ms n)
    (hK : KK D cI cZ s) (hP : va_P D vwCl ws H) (hD : va_D A0 ws) (hS : va_S A0 s.heap H locs) (hA : ∀ q, s.heap.size ≤ q → A0 q) (hsize : ls.size = nL) (isC : List Nat) (hnd : va_nd isC = true) (hC : isC.map (fun i => ws[i]?) = wc.map some) (ha : w1.map Prod.fst = wc.map Prod.fst)
    (hz : wput isC w1 0 ws = ws') (ci q0 : Nat) {q : vw_C} {fs : List Value} (hcl : vwCl[ci]? = some q) (hCn : q.1 = C) (hq0 : ws[q0]? = some (b, .inr (ci, fs))) (hn : As.length = n) (hstack : st0 = As.reverse ++ .ref b :: rest) (hW : (rest.map fun v => v.category).sum ≤ 8) (hdg : decode cc pc = .ok (.invokevirtual index, 3)) (hf : cells + mc ≤ R.cells ∧ slots + ms ≤ R.slots)
    (kk : ∀ (H1 : Heap) (locs1 : List Loc), va_P D vwCl ws' H1 → va_D A0 ws' → va_S A0 s.heap H1 locs1 → W p l e R s m args below meth c H1 locs1 (cells + mc) (slots + ms) Q (F0 m (pc + 3) ls (.int r :: rest))) : W p l e R s m args below meth c H locs cells slots Q (F0 m pc ls st0) := by
  subst hCn
  refine cl_run_i (As := .ref b :: As) ws' (va_runV (As := As) (rest := rest) S hM cw ⟨PC_blind, va_recv hK.1 hP hcl hq0, pc_pre hK hP hD isC hnd hC⟩ rfl hn hsize hstack (lv_room hW) hdg hf) hP hD hS hA isC hC ha hz kk
theorem clV_v (ws' : va_W) (S : CallFix p m c cc nL s args Ts own) (hM : Met l y wsy rm (PC D cI cZ H.size (.ref b :: As) wc) (QV D cI cZ H.size wc w1) mc ms (va_A wc H.size)) (cw : CallW R s args own C index y bytes maxL ret wsy rm mc ms n)
    (hK : KK D cI cZ s) (hP : va_P D vwCl ws H) (hD : va_D A0 ws) (hS : va_S A0 s.heap H locs) (hA : ∀ q, s.heap.size ≤ q → A0 q) (hsize : ls.size = nL) (isC : List Nat) (hnd : va_nd isC = true) (hC : isC.map (fun i => ws[i]?) = wc.map some) (ha : w1.map Prod.fst = wc.map Prod.fst)
    (hz : wput isC w1 0 ws = ws') (ci q0 : Nat) {q : vw_C} {fs : List Value} (hcl : vwCl[ci]? = some q) (hCn : q.1 = C) (hq0 : ws[q0]? = some (b, .inr (ci, fs))) (hn : As.length = n) (hstack : st0 = As.reverse ++ .ref b :: rest) (hW : (rest.map fun v => v.category).sum ≤ 8) (hdg : decode cc pc = .ok (.invokevirtual index, 3)) (hf : cells + mc ≤ R.cells ∧ slots + ms ≤ R.slots)
    (kk : ∀ (H1 : Heap) (locs1 : List Loc), va_P D vwCl ws' H1 → va_D A0 ws' → va_S A0 s.heap H1 locs1 → W p l e R s m args below meth c H1 locs1 (cells + mc) (slots + ms) Q (F0 m (pc + 3) ls rest)) : W p l e R s m args below meth c H locs cells slots Q (F0 m pc ls st0) := by
  subst hCn
  refine cl_run_v (As := .ref b :: As) ws' (va_runV (As := As) (rest := rest) S hM cw ⟨PC_blind, va_recv hK.1 hP hcl hq0, pc_pre hK hP hD isC hnd hC⟩ rfl hn hsize hstack (lv_room hW) hdg hf) hP hD hS hA isC hC ha hz kk
/-- invokestatic -/
theorem clS_i (ws' : va_W) (S : CallFix p m c cc nL s args Ts own) (hM : Met l y wsy rm (PC D cI cZ H.size As wc) (QI D cI cZ H.size wc r w1) mc ms (va_A wc H.size)) (cw : CallB R s args own index y bytes maxL ret wsy rm mc ms n ∧ (Cond.static y).before args s = true)
    (hK : KK D cI cZ s) (hP : va_P D vwCl ws H) (hD : va_D A0 ws) (hS : va_S A0 s.heap H locs) (hA : ∀ q, s.heap.size ≤ q → A0 q) (hsize : ls.size = nL) (isC : List Nat) (hnd : va_nd isC = true) (hC : isC.map (fun i => ws[i]?) = wc.map some) (ha : w1.map Prod.fst = wc.map Prod.fst)
    (hz : wput isC w1 0 ws = ws') (hn : As.length = n) (hstack : st0 = As.reverse ++ rest) (hW : (rest.map fun v => v.category).sum ≤ 8) (hdg : decode cc pc = .ok (.invokestatic index, 3)) (hf : cells + mc ≤ R.cells ∧ slots + ms ≤ R.slots)
    (kk : ∀ (H1 : Heap) (locs1 : List Loc), va_P D vwCl ws' H1 → va_D A0 ws' → va_S A0 s.heap H1 locs1 → W p l e R s m args below meth c H1 locs1 (cells + mc) (slots + ms) Q (F0 m (pc + 3) ls (.int r :: rest))) : W p l e R s m args below meth c H locs cells slots Q (F0 m pc ls st0) :=
  cl_run_i (As := As) ws' (va_runS (As := As) (rest := rest) S hM cw ⟨PC_blind, pc_pre hK hP hD isC hnd hC⟩ rfl hn hsize hstack (lv_room hW) hdg hf) hP hD hS hA isC hC ha hz kk
theorem clS_v (ws' : va_W) (S : CallFix p m c cc nL s args Ts own) (hM : Met l y wsy rm (PC D cI cZ H.size As wc) (QV D cI cZ H.size wc w1) mc ms (va_A wc H.size)) (cw : CallB R s args own index y bytes maxL ret wsy rm mc ms n ∧ (Cond.static y).before args s = true)
    (hK : KK D cI cZ s) (hP : va_P D vwCl ws H) (hD : va_D A0 ws) (hS : va_S A0 s.heap H locs) (hA : ∀ q, s.heap.size ≤ q → A0 q) (hsize : ls.size = nL) (isC : List Nat) (hnd : va_nd isC = true) (hC : isC.map (fun i => ws[i]?) = wc.map some) (ha : w1.map Prod.fst = wc.map Prod.fst)
    (hz : wput isC w1 0 ws = ws') (hn : As.length = n) (hstack : st0 = As.reverse ++ rest) (hW : (rest.map fun v => v.category).sum ≤ 8) (hdg : decode cc pc = .ok (.invokestatic index, 3)) (hf : cells + mc ≤ R.cells ∧ slots + ms ≤ R.slots)
    (kk : ∀ (H1 : Heap) (locs1 : List Loc), va_P D vwCl ws' H1 → va_D A0 ws' → va_S A0 s.heap H1 locs1 → W p l e R s m args below meth c H1 locs1 (cells + mc) (slots + ms) Q (F0 m (pc + 3) ls rest)) : W p l e R s m args below meth c H locs cells slots Q (F0 m pc ls st0) :=
  cl_run_v (As := As) ws' (va_runS (As := As) (rest := rest) S hM cw ⟨PC_blind, pc_pre hK hP hD isC hnd hC⟩ rfl hn hsize hstack (lv_room hW) hdg hf) hP hD hS hA isC hC ha hz kk
/-- invokestatic of a nest mate's private method -/
theorem clN_i (ws' : va_W) (S : CallFix p m c cc nL s args Ts own) (hM : Met l y wsy rm (PC D cI cZ H.size As wc) (QI D cI cZ H.size wc r w1) mc ms (va_A wc H.size)) (cw : va_CN R s args own index y host bytes maxL ret wsy rm mc ms n ∧ (Cond.static y).before args s = true ∧ True)
    (hK : KK D cI cZ s) (hP : va_P D vwCl ws H) (hD : va_D A0 ws) (hS : va_S A0 s.heap H locs) (hA : ∀ q, s.heap.size ≤ q → A0 q) (hsize : ls.size = nL) (isC : List Nat) (hnd : va_nd isC = true) (hC : isC.map (fun i => ws[i]?) = wc.map some) (ha : w1.map Prod.fst = wc.map Prod.fst)
    (hz : wput isC w1 0 ws = ws') (hn : As.length = n) (hstack : st0 = As.reverse ++ rest) (hW : (rest.map fun v => v.category).sum ≤ 8) (hdg : decode cc pc = .ok (.invokestatic index, 3)) (hf : cells + mc ≤ R.cells ∧ slots + ms ≤ R.slots)
    (kk : ∀ (H1 : Heap) (locs1 : List Loc), va_P D vwCl ws' H1 → va_D A0 ws' → va_S A0 s.heap H1 locs1 → W p l e R s m args below meth c H1 locs1 (cells + mc) (slots + ms) Q (F0 m (pc + 3) ls (.int r :: rest))) : W p l e R s m args below meth c H locs cells slots Q (F0 m pc ls st0) :=
  cl_run_i (As := As) ws' (va_runSN (As := As) (rest := rest) S hM cw ⟨PC_blind, pc_pre hK hP hD isC hnd hC⟩ rfl hn hsize hstack (lv_room hW) hdg hf) hP hD hS hA isC hC ha hz kk
theorem clN_v (ws' : va_W) (S : CallFix p m c cc nL s args Ts own) (hM : Met l y wsy rm (PC D cI cZ H.size As wc) (QV D cI cZ H.size wc w1) mc ms (va_A wc H.size)) (cw : va_CN R s args own index y host bytes maxL ret wsy rm mc ms n ∧ (Cond.static y).before args s = true ∧ True)
    (hK : KK D cI cZ s) (hP : va_P D vwCl ws H) (hD : va_D A0 ws) (hS : va_S A0 s.heap H locs) (hA : ∀ q, s.heap.size ≤ q → A0 q) (hsize : ls.size = nL) (isC : List Nat) (hnd : va_nd isC = true) (hC : isC.map (fun i => ws[i]?) = wc.map some) (ha : w1.map Prod.fst = wc.map Prod.fst)
    (hz : wput isC w1 0 ws = ws') (hn : As.length = n) (hstack : st0 = As.reverse ++ rest) (hW : (rest.map fun v => v.category).sum ≤ 8) (hdg : decode cc pc = .ok (.invokestatic index, 3)) (hf : cells + mc ≤ R.cells ∧ slots + ms ≤ R.slots)
    (kk : ∀ (H1 : Heap) (locs1 : List Loc), va_P D vwCl ws' H1 → va_D A0 ws' → va_S A0 s.heap H1 locs1 → W p l e R s m args below meth c H1 locs1 (cells + mc) (slots + ms) Q (F0 m (pc + 3) ls rest)) : W p l e R s m args below meth c H locs cells slots Q (F0 m pc ls st0) :=
  cl_run_v (As := As) ws' (va_runSN (As := As) (rest := rest) S hM cw ⟨PC_blind, pc_pre hK hP hD isC hnd hC⟩ rfl hn hsize hstack (lv_room hW) hdg hf) hP hD hS hA isC hC ha hz kk
end CLS
/-! a method's start: everything that is not looked into is a variable -/
section MKS
variable {l : Launch} {y : MethodName} {ws ws' : List Cond} {rm : Room} {cc : ByteArray} {maxL : Nat} {D : va_G} {cI cZ : ClassId} {sz : Nat} {av : List Value} {w0 w1 : va_W} {r : Int32} {lv0 : List (Nat × Value)}
theorem mk_i (hy : plainName y.cls = true) (hw : ws = Cond.code y cc maxL (some .int) :: ws') (hn : (lg_sl av).length ≤ maxL) (hlv : lv_args 0 av = lv0)
    (body : ∀ (p : Program) (e : Env) (s : State) (m : MethodId) (args : Array Value) (below : List Frame) (meth : Method) (c : Code) (ls : Array Slot) (A : Nat → Prop) (Q : State → Prop) (H : Heap), p.tables.exec = Jvm.exec → c.code = cc → c.maxLocals = maxL → s.vm.findClass y.cls = some m.cls → (∀ w ∈ ws, w.before args s = true) → KK D cI cZ s → va_P D vwCl w0 H → va_D A w0 → (∀ q, s.heap.size ≤ q → A q) → va_S A s.heap H [] → lv_has ls maxL lv0 →
      (∀ (H : Heap) (locs : List Loc) (v : Int32) (w1' : va_W) (pc : Nat) (ls' : Array Slot), v = r → w1' = w1 → va_P D vwCl w1' H → va_D A w1' → va_S A s.heap H locs → decode cc pc = .ok (.ireturn, 1) → W p l e rm s m args below meth c H locs 0 0 Q (F0 m pc ls' [.int v])) →
      W p l e rm s m args below meth c H [] 0 0 Q (F0 m 0 ls [])) : Met l y ws rm (PC D cI cZ sz av w0) (QI D cI cZ sz w0 r w1) 0 0 (va_A w0 sz) := by
  refine Met.ofW (cc := cc) (maxL := maxL) (ret := some .int) hy hw ?_
  intro p e s m args below meth c s₁ B hml hv
  obtain ⟨hargs, hsz, hP, hK, hD0⟩ := hv
  have hts := atoms_spec (ws := ws) B.pre
  have hown : s.vm.findClass y.cls = some m.cls := findClass_of_methodNamed B.named
  have hl := lv_entry av (n := maxL) hn
  subst hsz
  subst hargs
  rw [lg_entry_eq]
  rw [hlv] at hl
  refine body p e s m _ below meth c _ (va_A w0 s.heap.size) _ _ B.exec B.bytes hml hown hts hK hP hD0.self (fun q h => Or.inr h) va_S.rf hl ?_
  intro H locs v w1' pc ls' hv hw1 hP hD hS hdg
  subst hw1
  exact W.iret (v := v) B.exec B.bytes B.returns (fun t ht hW => ⟨⟨v, (), rfl, hv, by rw [ht]; exact hP, hK.warm hW, hD⟩, hS.F ht⟩) hS.2.2 hdg B.notSynchronized
theorem mk_z (hy : plainName y.cls = true) (hw : ws = Cond.code y cc maxL (some .boolean) :: ws') (hn : (lg_sl av).length ≤ maxL) (hlv : lv_args 0 av = lv0)
    (body : ∀ (p : Program) (e : Env) (s : State) (m : MethodId) (args : Array Value) (below : List Frame) (meth : Method) (c : Code) (ls : Array Slot) (A : Nat → Prop) (Q : State → Prop) (H : Heap), p.tables.exec = Jvm.exec → c.code = cc → c.maxLocals = maxL → s.vm.findClass y.cls = some m.cls → (∀ w ∈ ws, w.before args s = true) → KK D cI cZ s → va_P D vwCl w0 H → va_D A w0 → (∀ q, s.heap.size ≤ q → A q) → va_S A s.heap H [] → lv_has ls maxL lv0 →
      (∀ (H : Heap) (locs : List Loc) (v : Int32) (w1' : va_W) (pc : Nat) (ls' : Array Slot), v = 0 ∨ v = 1 → v = r → w1' = w1 → va_P D vwCl w1' H → va_D A w1' → va_S A s.heap H locs → decode cc pc = .ok (.ireturn, 1) → W p l e rm s m args below meth c H locs 0 0 Q (F0 m pc ls' [.int v])) →
      W p l e rm s m args below meth c H [] 0 0 Q (F0 m 0 ls [])) : Met l y ws rm (PC D cI cZ sz av w0) (QI D cI cZ sz w0 r w1) 0 0 (va_A w0 sz) := by
  refine Met.ofW (cc := cc) (maxL := maxL) (ret := some .boolean) hy hw ?_
  intro p e s m args below meth c s₁ B hml hv
  obtain ⟨hargs, hsz, hP, hK, hD0⟩ := hv
  have hts := atoms_spec (ws := ws) B.pre
  have hown : s.vm.findClass y.cls = some m.cls := findClass_of_methodNamed B.named
  have hl := lv_entry av (n := maxL) hn
  subst hsz
  subst hargs
  rw [lg_entry_eq]
  rw [hlv] at hl
  refine body p e s m _ below meth c _ (va_A w0 s.heap.size) _ _ B.exec B.bytes hml hown hts hK hP hD0.self (fun q h => Or.inr h) va_S.rf hl ?_
  intro H locs v w1' pc ls' h01 hv hw1 hP hD hS hdg
  subst hw1
  exact W.zret (v := v) (ty := .boolean) B.exec B.bytes B.returns (by rcases h01 with h | h <;> (subst h; rfl)) (fun t ht hW => ⟨⟨v, (), rfl, hv, by rw [ht]; exact hP, hK.warm hW, hD⟩, hS.F ht⟩) hS.2.2 hdg B.notSynchronized
theorem mk_v (hy : plainName y.cls = true) (hw : ws = Cond.code y cc maxL none :: ws') (hn : (lg_sl av).length ≤ maxL) (hlv : lv_args 0 av = lv0)
    (body : ∀ (p : Program) (e : Env) (s : State) (m : MethodId) (args : Array Value) (below : List Frame) (meth : Method) (c : Code) (ls : Array Slot) (A : Nat → Prop) (Q : State → Prop) (H : Heap), p.tables.exec = Jvm.exec → c.code = cc → c.maxLocals = maxL → s.vm.findClass y.cls = some m.cls → (∀ w ∈ ws, w.before args s = true) → KK D cI cZ s → va_P D vwCl w0 H → va_D A w0 → (∀ q, s.heap.size ≤ q → A q) → va_S A s.heap H [] → lv_has ls maxL lv0 →
      (∀ (H : Heap) (locs : List Loc) (w1' : va_W) (pc : Nat) (ls' : Array Slot), w1' = w1 → va_P D vwCl w1' H → va_D A w1' → va_S A s.heap H locs → decode cc pc = .ok (.return_, 1) → W p l e rm s m args below meth c H locs 0 0 Q (F0 m pc ls' [])) →
      W p l e rm s m args below meth c H [] 0 0 Q (F0 m 0 ls [])) : Met l y ws rm (PC D cI cZ sz av w0) (QV D cI cZ sz w0 w1) 0 0 (va_A w0 sz) := by
  refine Met.ofW (cc := cc) (maxL := maxL) (ret := none) hy hw ?_
  intro p e s m args below meth c s₁ B hml hv
  obtain ⟨hargs, hsz, hP, hK, hD0⟩ := hv
  have hts := atoms_spec (ws := ws) B.pre
  have hown : s.vm.findClass y.cls = some m.cls := findClass_of_methodNamed B.named
  have hl := lv_entry av (n := maxL) hn
  subst hsz
  subst hargs
  rw [lg_entry_eq]
  rw [hlv] at hl
  refine body p e s m _ below meth c _ (va_A w0 s.heap.size) _ _ B.exec B.bytes hml hown hts hK hP hD0.self (fun q h => Or.inr h) va_S.rf hl ?_
  intro H locs w1' pc ls' hw1 hP hD hS hdg
  subst hw1
  exact W.vret B.exec B.bytes B.returns (fun t ht hW => ⟨⟨(), rfl, trivial, by rw [ht]; exact hP, hK.warm hW, hD⟩, hS.F ht⟩) hS.2.2 hdg B.notSynchronized
end MKS
