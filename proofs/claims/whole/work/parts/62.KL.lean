abbrev wGL (cI : ClassId) (cJ : ClassId) (ad : Nat → Nat) (oa : Nat) (size rc : Int32) (g fs st ln su rr cr : Nat → Int32) (bc : Int32) (bl td fi fa : Nat → Int32) (tk gr : Int32) (se sr : Nat → Int32) (ou : Nat → Int64) : va_W := [((ad 0), .inr (0, [.int size, .int rc, .ref (ad 1), .ref (ad 2), .ref (ad 3), .ref (ad 4), .ref (ad 5), .ref (ad 6), .ref (ad 7)])), ((ad 1), .inl (cI, 16, .inl g)), ((ad 2), .inl (cI, 8, .inl fs)), ((ad 3), .inl (cI, 8, .inl st)), ((ad 4), .inl (cI, 8, .inl ln)), ((ad 5), .inl (cI, 8, .inl su)), ((ad 6), .inl (cI, 16, .inl rr)), ((ad 7), .inl (cI, 16, .inl cr)), ((ad 8), .inr (2, [.ref (ad 0), .int bc, .ref (ad 9), .ref (ad 10), .ref (ad 11), .ref (ad 12)])), ((ad 9), .inl (cI, 16, .inl bl)), ((ad 10), .inl (cI, 16, .inl td)), ((ad 11), .inl (cI, 16, .inl fi)), ((ad 12), .inl (cI, 16, .inl fa)), ((ad 13), .inr (1, [.ref (ad 0), .ref (ad 14), .ref (ad 15), .int tk, .int gr])), ((ad 14), .inl (cI, 16, .inl se)), ((ad 15), .inl (cI, 4, .inl sr)), ((ad 16), .inr (3, [.ref (ad 0), .ref (ad 8), .ref (ad 13)])), (oa, .inl (cJ, 1, .inr (.inl ou)))]
abbrev wLL (cI : ClassId) (cZ : ClassId) (cJ : ClassId) (ad md : Nat → Nat) (oa : Nat) (size rc : Int32) (g fs st ln su rr cr : Nat → Int32) (bc : Int32) (bl td fi fa : Nat → Int32) (tk gr : Int32) (se sr : Nat → Int32) (mth msz mrn mmy mdf mgu mhs mlv : Int32) (mba mgi mfi mle mst msu mtr mdi mfa mca : Nat → Int32) (ou : Nat → Int64) : va_W := [((ad 0), .inr (0, [.int size, .int rc, .ref (ad 1), .ref (ad 2), .ref (ad 3), .ref (ad 4), .ref (ad 5), .ref (ad 6), .ref (ad 7)])), ((ad 1), .inl (cI, 16, .inl g)), ((ad 2), .inl (cI, 8, .inl fs)), ((ad 3), .inl (cI, 8, .inl st)), ((ad 4), .inl (cI, 8, .inl ln)), ((ad 5), .inl (cI, 8, .inl su)), ((ad 6), .inl (cI, 16, .inl rr)), ((ad 7), .inl (cI, 16, .inl cr)), ((ad 8), .inr (2, [.ref (ad 0), .int bc, .ref (ad 9), .ref (ad 10), .ref (ad 11), .ref (ad 12)])), ((ad 9), .inl (cI, 16, .inl bl)), ((ad 10), .inl (cI, 16, .inl td)), ((ad 11), .inl (cI, 16, .inl fi)), ((ad 12), .inl (cI, 16, .inl fa)), ((ad 13), .inr (1, [.ref (ad 0), .ref (ad 14), .ref (ad 15), .int tk, .int gr])), ((ad 14), .inl (cI, 16, .inl se)), ((ad 15), .inl (cI, 4, .inl sr)), ((ad 16), .inr (3, [.ref (ad 0), .ref (ad 8), .ref (ad 13)])), ((md 0), .inr (4, [.int mth, .int msz, .ref (md 1), .ref (md 2), .int mrn, .ref (md 3), .ref (md 4), .ref (md 5), .ref (md 6), .ref (md 7), .int mmy, .ref (md 8), .ref (md 9), .int mdf, .int mgu, .ref (md 10), .int mhs, .int mlv])), ((md 1), .inl (cZ, 16, .inl mba)), ((md 2), .inl (cI, 16, .inl mgi)), ((md 3), .inl (cI, 8, .inl mfi)), ((md 4), .inl (cI, 8, .inl mle)), ((md 5), .inl (cI, 8, .inl mst)), ((md 6), .inl (cI, 8, .inl msu)), ((md 7), .inl (cI, 16, .inl mtr)), ((md 8), .inl (cI, 16, .inl mdi)), ((md 9), .inl (cI, 16, .inl mfa)), ((md 10), .inl (cI, 16, .inl mca)), (oa, .inl (cJ, 1, .inr (.inl ou)))]
/-! the law's own methods: they catch; a row of one long goes with them -/
def NC (U : State) : Prop := va_Nc eA eB U ∧ va_Nc eS eB U ∧ va_Nc eS eA U
theorem NC.moved {u U : State} (hvm : u.vm.Alike U.vm) (h : NC u) : NC U := ⟨va_Nc.moved hvm h.1, va_Nc.moved hvm h.2.1, va_Nc.moved hvm h.2.2⟩
abbrev PL (D : va_G) (cI cZ cJ : ClassId) (sz : Nat) (av : List Value) (w : va_W) : Array Value → State → Prop := va_Pc av (fun U => U.heap.size = sz ∧ va_P D vwCl w U.heap ∧ KK D cI cZ U ∧ va_D (fun _ => True) w ∧ XS (va_A w sz) U U.heap ∧ va_K D vwCl [(cJ, .long)] U ∧ NC U)
theorem PL_blind {D : va_G} {cI cZ cJ : ClassId} {sz : Nat} {av : List Value} {w : va_W} : FrameBlind (PL D cI cZ cJ sz av w) := fun a U g mk h => ⟨h.1, h.2.1, h.2.2.1, h.2.2.2.1.same (U := U.calling g mk a) rfl, h.2.2.2.2.1, XS.same (u := U) (U := U.calling g mk a) (H := U.heap) rfl h.2.2.2.2.2.1, va_K.moved (u := U) (U := U.calling g mk a) (Vm.Alike.refl U.vm) h.2.2.2.2.2.2.1, NC.moved (u := U) (U := U.calling g mk a) (Vm.Alike.refl U.vm) h.2.2.2.2.2.2.2⟩
theorem Met_ofWH {l : Launch} {y : MethodName} {ws ws' : List Cond} {rm : Room} {Pc : Array Value → State → Prop} {Qc : Array Value → State → Outcome → State → Prop} {mc ms : Nat} {free : Addr → Prop} {cc : ByteArray} {maxL : Nat} {ret : Option FieldType} {hh : List (Nat × Nat × Nat × Nat)}
    (hy : plainName y.cls = true) (hw : ws = Cond.codeWith y cc maxL ret hh :: ws')
    (body : ∀ p e s m args below meth c s₁, BodyLoose p l y (headSpec ws rm) cc maxL ret e s m args below meth c s₁ → c.maxLocals = maxL → Pc args s →
      W p l e (headSpec ws rm).room s m args below meth c s.heap [] 0 0 (MQ below Qc args s mc ms free) (entryFrame m args maxL)) : Met l y ws rm Pc Qc mc ms free := by
  refine MetFree.of_bodyS (code := cc) (maxLocals := maxL) (ret := ret) hy ?_ ?_
  · intro args s m h hn
    obtain ⟨m9, meth, c, hn9, h1, h2, h3, h4, -, h5, h6, -⟩ := Cond.codeWith_spec (atoms_spec (ws := ws) h _ (by rw [hw]; exact List.mem_cons_self))
    cases hn.symm.trans hn9
    exact ⟨meth, c, h1, h2, h3, h4, h5, h6⟩
  · intro p e s m args below meth c s₁ B hml hP _
    have hh0 : s₁.heap = s.heap := by rw [B.state]; rfl
    obtain ⟨t, a1, o, b1, b2, b3⟩ := body p e s m args below meth c s₁ B hml hP s₁ hh0 (Stand.of_body B)
    exact ⟨t, o, a1, b1, b2, ⟨b3.1, b3.2⟩⟩
theorem mkl_i {l : Launch} {y : MethodName} {ws ws' : List Cond} {rm : Room} {cc : ByteArray} {maxL : Nat} {D : va_G} {cI cZ cJ : ClassId} {sz : Nat} {av : List Value} {w0 w1 : va_W} {r : Int32} {lv0 : List (Nat × Value)} {hh : List (Nat × Nat × Nat × Nat)} {mc ms : Nat} (hcls : y.cls = RL)
    (hy : plainName y.cls = true) (hw : ws = Cond.codeWith y cc maxL (some .int) hh :: ws') (hn : (lg_sl av).length ≤ maxL) (hlv : lv_args 0 av = lv0)
    (body : ∀ (p : Program) (e : Env) (s : State) (m : MethodId) (args : Array Value) (below : List Frame) (meth : Method) (c : Code) (ls : Array Slot) (A : Nat → Prop) (Q : State → Prop) (H : Heap), p.tables.exec = Jvm.exec → c.code = cc → c.maxLocals = maxL → s.vm.findClass RL = some m.cls → (∀ w ∈ ws, w.before args s = true) → KK D cI cZ s → XS A s s.heap → va_K D vwCl [(cJ, .long)] s → NC s → va_P D vwCl w0 H → va_D A w0 → (∀ q, s.heap.size ≤ q → A q) → va_S A s.heap H [] → lv_has ls maxL lv0 → c.exceptionTable.toList = tableOf hh →
      (∀ (H : Heap) (locs : List Loc) (cells slots : Nat) (v : Int32) (w1' : va_W) (pc : Nat) (ls' : Array Slot), v = r → w1' = w1 → va_P D vwCl w1' H → va_D A w1' → va_S A s.heap H locs → cells ≤ mc → slots ≤ ms → decode cc pc = .ok (.ireturn, 1) → W p l e rm s m args below meth c H locs cells slots Q (F0 m pc ls' [.int v])) →
      W p l e rm s m args below meth c H [] 0 0 Q (F0 m 0 ls [])) : Met l y ws rm (PL D cI cZ cJ sz av w0) (QI D cI cZ sz w0 r w1) mc ms (va_A w0 sz) := by
  refine Met_ofWH (cc := cc) (maxL := maxL) (ret := some .int) (hh := hh) hy hw ?_
  intro p e s m args below meth c s₁ B hml hv
  obtain ⟨hargs, hsz, hP, hK, hD0, hXS, hKJ, hNC⟩ := hv
  have hts := atoms_spec (ws := ws) B.pre
  have hown : s.vm.findClass RL = some m.cls := by rw [← hcls]; exact findClass_of_methodNamed B.named
  have htab := vx_table (x := y) B (hts _ (by rw [hw]; exact List.mem_cons_self))
  have hl := lv_entry av (n := maxL) hn
  subst hsz
  subst hargs
  rw [lg_entry_eq]
  rw [hlv] at hl
  refine body p e s m _ below meth c _ (va_A w0 s.heap.size) _ _ B.exec B.bytes hml hown hts hK hXS hKJ hNC hP hD0.self (fun q h => Or.inr h) va_S.rf hl htab ?_
  intro H locs cells slots v w1' pc ls' hv hw1 hP hD hS h1 h2 hdg
  subst hw1
  exact W.widen h1 h2 (W.iret (v := v) B.exec B.bytes B.returns (fun t ht hW => ⟨⟨v, (), rfl, hv, by rw [ht]; exact hP, hK.warm hW, hD⟩, hS.F ht⟩) hS.2.2 hdg B.notSynchronized)
theorem clSW_i {p : Program} {l : Launch} {e : Env} {R : Room} {s : State} {m : MethodId} {args : Array Value} {below : List Frame} {meth : Method} {c : Code} {H : Heap} {locs : List Loc} {cells slots : Nat} {Q : State → Prop} {pc : Nat} {ls : Array Slot} {rest st0 : List Value} {A0 : Nat → Prop} {y : MethodName} {bytes cc : ByteArray} {maxL nL n index mc ms : Nat} {ret : Option FieldType} {hh : List (Nat × Nat × Nat × Nat)} {wsy : List Cond} {rm : Room} {Ts : List Cond} {own : String} {As : List Value}
    {D : va_G} {cI cZ cJ : ClassId} {ws wc w1 : va_W} {r : Int32} (ws' : va_W) (S : CallFix p m c cc nL s args Ts own) (hM : Met l y wsy rm (PL D cI cZ cJ H.size As wc) (QI D cI cZ H.size wc r w1) mc ms (va_A wc H.size)) (cw : vx_CSW R s args own index y bytes maxL ret hh wsy rm mc ms n)
    (hK : KK D cI cZ s) (hX : XS A0 s s.heap) (hKJ : va_K D vwCl [(cJ, .long)] s) (hNC : NC s) (hP : va_P D vwCl ws H) (hD : va_D A0 ws) (hS : va_S A0 s.heap H locs) (hA : ∀ q, s.heap.size ≤ q → A0 q) (hsize : ls.size = nL) (isC : List Nat) (hnd : va_nd isC = true) (hC : isC.map (fun i => ws[i]?) = wc.map some) (ha : w1.map Prod.fst = wc.map Prod.fst)
    (hz : wput isC w1 0 ws = ws') (hn : As.length = n) (hstack : st0 = As.reverse ++ rest) (hW : (rest.map fun v => v.category).sum ≤ 8) (hdg : decode cc pc = .ok (.invokestatic index, 3)) (hf : cells + mc ≤ R.cells ∧ slots + ms ≤ R.slots)
    (kk : ∀ (H1 : Heap) (locs1 : List Loc), va_P D vwCl ws' H1 → va_D A0 ws' → va_S A0 s.heap H1 locs1 → W p l e R s m args below meth c H1 locs1 (cells + mc) (slots + ms) Q (F0 m (pc + 3) ls (.int r :: rest))) : W p l e R s m args below meth c H locs cells slots Q (F0 m pc ls st0) := by
  refine cl_run_i (As := As) ws' (vx_runSW (As := As) (rest := rest) S hM cw ⟨PL_blind, fun U hU hW => ?_⟩ rfl hn hsize hstack (lv_room hW) hdg hf) hP hD hS hA isC hC ha hz kk
  obtain ⟨h1, h2, h3, h4, h5, h6⟩ := px_pre hK hX hP hD hS hA isC hnd hC (av := As) U hU hW
  exact ⟨h1, h2, h3, h4, h5, h6, va_K.moved hW.alike hKJ, NC.moved hW.alike hNC⟩
theorem tbl_out {x : Int32} (h : ∀ k : Nat, k < 19 → ¬ x = Int32.ofNat k) : x.toInt < 0 ∨ 18 < x.toInt := by
  by_cases h1 : x.toInt < 0
  · exact Or.inl h1
  · by_cases h2 : 18 < x.toInt
    · exact Or.inr h2
    · exfalso
      refine h x.toInt.toNat (by omega) (Int32.toInt_inj.mp ?_)
      have h3 : (Int32.ofNat x.toInt.toNat).toInt = ((x.toInt.toNat : Nat) : Int) := nI_toInt (n := x.toInt.toNat) (by omega)
      rw [h3]
      omega
def f_L_begin (N : Nat) (size : Int32) (rc : Int32) (g : Nat → Int32) (fs : Nat → Int32) (st : Nat → Int32) (ln : Nat → Int32) (su : Nat → Int32) (rr : Nat → Int32) (cr : Nat → Int32) (p1 : Int32) : Option (Int32 × Int32 × Int32 × (Nat → Int32) × (Nat → Int32) × (Nat → Int32) × (Nat → Int32) × (Nat → Int32) × (Nat → Int32) × (Nat → Int32)) :=
  (f_X3_begin N size rc g fs st ln su rr cr p1).bind fun x2 => sm x2 (fun y2 => some (0, y2.1, y2.2.1, y2.2.2.1, y2.2.2.2.1, y2.2.2.2.2.1, y2.2.2.2.2.2.1, y2.2.2.2.2.2.2.1, y2.2.2.2.2.2.2.2.1, y2.2.2.2.2.2.2.2.2)) (fun z2 => (if z2.1 = 1 then some (1, z2.2.1, z2.2.2.1, z2.2.2.2.1, z2.2.2.2.2.1, z2.2.2.2.2.2.1, z2.2.2.2.2.2.2.1, z2.2.2.2.2.2.2.2.1, z2.2.2.2.2.2.2.2.2.1, z2.2.2.2.2.2.2.2.2.2) else none))
def rm_L_begin : Room := { frames := 9, cells := 1, slots := 6, locals := 221 }
set_option maxRecDepth 100000 in
set_option maxHeartbeats 8000000 in
theorem K_L_begin (l : Launch) (hst : l.stackTraces = false) (D : va_G) (cI cZ cJ : ClassId) (ad : Nat → Nat) (oa : Nat) (sz : Nat) (N : Nat) (size rc : Int32) (g fs st ln su rr cr : Nat → Int32) (bc : Int32) (bl td fi fa : Nat → Int32) (tk gr : Int32) (se sr : Nat → Int32) (ou : Nat → Int64) (p1 : Int32) (r : (Int32 × Int32 × Int32 × (Nat → Int32) × (Nat → Int32) × (Nat → Int32) × (Nat → Int32) × (Nat → Int32) × (Nat → Int32) × (Nat → Int32))) (hf : f_L_begin N size rc g fs st ln su rr cr p1 = some r) : Met l yL_begin wsL_begin rm_L_begin (PL D cI cZ cJ sz [.ref (ad 16), .int p1] (wGL cI cJ ad oa size rc g fs st ln su rr cr bc bl td fi fa tk gr se sr ou)) (QI D cI cZ sz (wGL cI cJ ad oa size rc g fs st ln su rr cr bc bl td fi fa tk gr se sr ou) r.1 (wGL cI cJ ad oa r.2.1 r.2.2.1 r.2.2.2.1 r.2.2.2.2.1 r.2.2.2.2.2.1 r.2.2.2.2.2.2.1 r.2.2.2.2.2.2.2.1 r.2.2.2.2.2.2.2.2.1 r.2.2.2.2.2.2.2.2.2 bc bl td fi fa tk gr se sr ou)) 1 6 (va_A (wGL cI cJ ad oa size rc g fs st ln su rr cr bc bl td fi fa tk gr se sr ou) sz) := by
  refine mkl_i (cc := cL_begin) (maxL := 3) (lv0 := [(0, .ref (ad 16)), (1, .int p1)]) (hh := [(0, 5, 8, 13)]) rfl (by decide) rfl (Nat.le_of_ble_eq_true rfl) rfl ?_
  intro p e s m args below meth c ls A Q H hx hb hml hown hts hK hXS hKJ hNC hP hD hA hS hl htab hR
  rw [f_L_begin] at hf
  refine lv_aload_n hx hb dL_begin_0 rfl (lv_at hl 0 rfl) ?_
  refine lv_iload_n hx hb dL_begin_1 rfl (lv_at hl 1 rfl) ?_
  obtain ⟨x2, hy2, hf⟩ := Option.bind_eq_some_iff.mp hf
  refine clX_v (As := [.int p1]) (rest := []) (fun (u : Int32 × Int32 × (Nat → Int32) × (Nat → Int32) × (Nat → Int32) × (Nat → Int32) × (Nat → Int32) × (Nat → Int32) × (Nat → Int32)) => wG cI ad u.1 u.2.1 u.2.2.1 u.2.2.2.1 u.2.2.2.2.1 u.2.2.2.2.2.1 u.2.2.2.2.2.2.1 u.2.2.2.2.2.2.2.1 u.2.2.2.2.2.2.2.2 bc bl td fi fa tk gr se sr) (fun (u : Nat × Int32 × Int32 × (Nat → Int32) × (Nat → Int32) × (Nat → Int32) × (Nat → Int32) × (Nat → Int32) × (Nat → Int32) × (Nat → Int32)) => u.1) (fun (u : Nat × Int32 × Int32 × (Nat → Int32) × (Nat → Int32) × (Nat → Int32) × (Nat → Int32) × (Nat → Int32) × (Nat → Int32) × (Nat → Int32)) => wG cI ad u.2.1 u.2.2.1 u.2.2.2.1 u.2.2.2.2.1 u.2.2.2.2.2.1 u.2.2.2.2.2.2.1 u.2.2.2.2.2.2.2.1 u.2.2.2.2.2.2.2.2.1 u.2.2.2.2.2.2.2.2.2 bc bl td fi fa tk gr se sr) (fun (u : Int32 × Int32 × (Nat → Int32) × (Nat → Int32) × (Nat → Int32) × (Nat → Int32) × (Nat → Int32) × (Nat → Int32) × (Nat → Int32)) => wGL cI cJ ad oa u.1 u.2.1 u.2.2.1 u.2.2.2.1 u.2.2.2.2.1 u.2.2.2.2.2.1 u.2.2.2.2.2.2.1 u.2.2.2.2.2.2.2.1 u.2.2.2.2.2.2.2.2 bc bl td fi fa tk gr se sr ou) (fun (u : Nat × Int32 × Int32 × (Nat → Int32) × (Nat → Int32) × (Nat → Int32) × (Nat → Int32) × (Nat → Int32) × (Nat → Int32) × (Nat → Int32)) => wGL cI cJ ad oa u.2.1 u.2.2.1 u.2.2.2.1 u.2.2.2.2.1 u.2.2.2.2.2.1 u.2.2.2.2.2.2.1 u.2.2.2.2.2.2.2.1 u.2.2.2.2.2.2.2.2.1 u.2.2.2.2.2.2.2.2.2 bc bl td fi fa tk gr se sr ou) ⟨hx, hb, hml, hown, hts⟩ (K_X3_begin l hst D cI cZ ad H.size N size rc g fs st ln su rr cr bc bl td fi fa tk gr se sr p1 _ hy2) (cwV 1 hts gL_begin_X3_begin rfl rfl rfl (by decide +kernel) ⟨Nat.le_of_ble_eq_true rfl, Nat.le_of_ble_eq_true rfl⟩) hK hXS hP hD hS hA hl.1 [0, 1, 2, 3, 4, 5, 6, 7, 8, 9, 10, 11, 12, 13, 14, 15, 16] (by decide) rfl (fun _ => rfl) (fun _ => rfl) (fun _ => rfl) (fun _ => rfl) 3 16 rfl rfl rfl rfl rfl (Nat.le_of_ble_eq_true rfl) dL_begin_2 ⟨Nat.le_of_ble_eq_true rfl, Nat.le_of_ble_eq_true rfl⟩ (fun z2 hz E ce q9 H locs hE hP hD hS hq hv hc => ?_) (fun y2 hz H locs hP hD hS => ?_)
  · rw [hz] at hf
    have hf := sm_r hf
    rcases Decidable.em (z2.1 = 1) with c_1 | c_1
    · have hf := ite_t c_1 hf
      have hE : E = eA := by rw [hE, c_1]; rfl
      subst hE
      refine vx_catch (own := RL) (name := eA) hown [] ⟨0, 5, 8, 13⟩ [] htab (fun z hz => nomatch hz) rfl (by decide) (hts (.classLink RL 13 eA) (by decide +kernel)) (va_Nw.use rfl (hXS.2.2.2 (.castable eA eA) (by decide +kernel))) hq hv hc ?_
      refine lv_astore_n (x := q9) (lv' := [(2, .ref q9), (0, .ref (ad 16)), (1, .int p1)]) hx hb dL_begin_8 rfl hl (by decide) rfl (fun ls hl => ?_)
      refine lv_iconst (v := 1) hx hb dL_begin_9 (by decide) ?_
      cases hf
      exact hR _ _ _ _ _ _ _ _ rfl rfl hP hD hS (Nat.le_of_ble_eq_true rfl) (Nat.le_of_ble_eq_true rfl) dL_begin_10
    have hf := ite_f c_1 hf
    exact nomatch hf
  · rw [hz] at hf
    have hf := sm_l hf
    refine lv_goto (tgt := 11) hx hb dL_begin_5 (by decide) ?_
    refine lv_iconst (v := 0) hx hb dL_begin_11 (by decide) ?_
    cases hf
    exact hR _ _ _ _ _ _ _ _ rfl rfl hP hD hS (Nat.le_of_ble_eq_true rfl) (Nat.le_of_ble_eq_true rfl) dL_begin_12
def f_L_bar (N : Nat) (size : Int32) (rc : Int32) (g : Nat → Int32) (fs : Nat → Int32) (st : Nat → Int32) (ln : Nat → Int32) (su : Nat → Int32) (rr : Nat → Int32) (cr : Nat → Int32) (ou : Nat → Int64) (p1 : Int32) : Option (Int32 × Int32 × (Nat → Int32) × (Nat → Int32) × (Nat → Int32) × (Nat → Int32) × (Nat → Int32) × (Nat → Int32) × (Nat → Int32) × (Nat → Int64)) :=
  (f_X3_bar N size rc g fs st ln su rr cr p1).bind fun x4 => sm x4 (fun y4 => (if y4.1 = 0 then some (0, y4.2.1, y4.2.2.1, y4.2.2.2.1, y4.2.2.2.2.1, y4.2.2.2.2.2.1, y4.2.2.2.2.2.2.1, y4.2.2.2.2.2.2.2.1, y4.2.2.2.2.2.2.2.2, (vp_updL ou ((0 : Int32)).toNatClampNeg 0)) else some (0, y4.2.1, y4.2.2.1, y4.2.2.2.1, y4.2.2.2.2.1, y4.2.2.2.2.2.1, y4.2.2.2.2.2.2.1, y4.2.2.2.2.2.2.2.1, y4.2.2.2.2.2.2.2.2, (vp_updL ou ((0 : Int32)).toNatClampNeg 1)))) (fun z4 => (if z4.1 = 3 then some (1, z4.2.1, z4.2.2.1, z4.2.2.2.1, z4.2.2.2.2.1, z4.2.2.2.2.2.1, z4.2.2.2.2.2.2.1, z4.2.2.2.2.2.2.2.1, z4.2.2.2.2.2.2.2.2, ou) else none))
def rm_L_bar : Room := { frames := 10, cells := 1, slots := 6, locals := 242 }
set_option maxRecDepth 100000 in
set_option maxHeartbeats 8000000 in
theorem K_L_bar (l : Launch) (hst : l.stackTraces = false) (D : va_G) (cI cZ cJ : ClassId) (ad : Nat → Nat) (oa : Nat) (sz : Nat) (N : Nat) (size rc : Int32) (g fs st ln su rr cr : Nat → Int32) (bc : Int32) (bl td fi fa : Nat → Int32) (tk gr : Int32) (se sr : Nat → Int32) (ou : Nat → Int64) (p1 : Int32) (r : (Int32 × Int32 × (Nat → Int32) × (Nat → Int32) × (Nat → Int32) × (Nat → Int32) × (Nat → Int32) × (Nat → Int32) × (Nat → Int32) × (Nat → Int64))) (hf : f_L_bar N size rc g fs st ln su rr cr ou p1 = some r) : Met l yL_bar wsL_bar rm_L_bar (PL D cI cZ cJ sz [.ref (ad 16), .int p1, .ref oa] (wGL cI cJ ad oa size rc g fs st ln su rr cr bc bl td fi fa tk gr se sr ou)) (QI D cI cZ sz (wGL cI cJ ad oa size rc g fs st ln su rr cr bc bl td fi fa tk gr se sr ou) r.1 (wGL cI cJ ad oa size r.2.1 r.2.2.1 r.2.2.2.1 r.2.2.2.2.1 r.2.2.2.2.2.1 r.2.2.2.2.2.2.1 r.2.2.2.2.2.2.2.1 r.2.2.2.2.2.2.2.2.1 bc bl td fi fa tk gr se sr r.2.2.2.2.2.2.2.2.2)) 1 6 (va_A (wGL cI cJ ad oa size rc g fs st ln su rr cr bc bl td fi fa tk gr se sr ou) sz) := by
  refine mkl_i (cc := cL_bar) (maxL := 4) (lv0 := [(0, .ref (ad 16)), (1, .int p1), (2, .ref oa)]) (hh := [(0, 16, 19, 19)]) rfl (by decide) rfl (Nat.le_of_ble_eq_true rfl) rfl ?_
  intro p e s m args below meth c ls A Q H hx hb hml hown hts hK hXS hKJ hNC hP hD hA hS hl htab hR
  rw [f_L_bar] at hf
  refine lv_aload_n hx hb dL_bar_0 rfl (lv_at hl 2 rfl) ?_
  refine lv_iconst (v := 0) hx hb dL_bar_1 (by decide) ?_
  refine lv_aload_n hx hb dL_bar_2 rfl (lv_at hl 0 rfl) ?_
  refine lv_iload_n hx hb dL_bar_3 rfl (lv_at hl 1 rfl) ?_
  obtain ⟨x4, hy4, hf⟩ := Option.bind_eq_some_iff.mp hf
  refine clX_i (As := [.int p1]) (rest := [.int 0, .ref oa]) (fun (u : Int32 × Int32 × (Nat → Int32) × (Nat → Int32) × (Nat → Int32) × (Nat → Int32) × (Nat → Int32) × (Nat → Int32) × (Nat → Int32)) => u.1) (fun (u : Int32 × Int32 × (Nat → Int32) × (Nat → Int32) × (Nat → Int32) × (Nat → Int32) × (Nat → Int32) × (Nat → Int32) × (Nat → Int32)) => wG cI ad size u.2.1 u.2.2.1 u.2.2.2.1 u.2.2.2.2.1 u.2.2.2.2.2.1 u.2.2.2.2.2.2.1 u.2.2.2.2.2.2.2.1 u.2.2.2.2.2.2.2.2 bc bl td fi fa tk gr se sr) (fun (u : Nat × Int32 × (Nat → Int32) × (Nat → Int32) × (Nat → Int32) × (Nat → Int32) × (Nat → Int32) × (Nat → Int32) × (Nat → Int32)) => u.1) (fun (u : Nat × Int32 × (Nat → Int32) × (Nat → Int32) × (Nat → Int32) × (Nat → Int32) × (Nat → Int32) × (Nat → Int32) × (Nat → Int32)) => wG cI ad size u.2.1 u.2.2.1 u.2.2.2.1 u.2.2.2.2.1 u.2.2.2.2.2.1 u.2.2.2.2.2.2.1 u.2.2.2.2.2.2.2.1 u.2.2.2.2.2.2.2.2 bc bl td fi fa tk gr se sr) (fun (u : Int32 × Int32 × (Nat → Int32) × (Nat → Int32) × (Nat → Int32) × (Nat → Int32) × (Nat → Int32) × (Nat → Int32) × (Nat → Int32)) => wGL cI cJ ad oa size u.2.1 u.2.2.1 u.2.2.2.1 u.2.2.2.2.1 u.2.2.2.2.2.1 u.2.2.2.2.2.2.1 u.2.2.2.2.2.2.2.1 u.2.2.2.2.2.2.2.2 bc bl td fi fa tk gr se sr ou) (fun (u : Nat × Int32 × (Nat → Int32) × (Nat → Int32) × (Nat → Int32) × (Nat → Int32) × (Nat → Int32) × (Nat → Int32) × (Nat → Int32)) => wGL cI cJ ad oa size u.2.1 u.2.2.1 u.2.2.2.1 u.2.2.2.2.1 u.2.2.2.2.2.1 u.2.2.2.2.2.2.1 u.2.2.2.2.2.2.2.1 u.2.2.2.2.2.2.2.2 bc bl td fi fa tk gr se sr ou) ⟨hx, hb, hml, hown, hts⟩ (K_X3_bar l hst D cI cZ ad H.size N size rc g fs st ln su rr cr bc bl td fi fa tk gr se sr p1 _ hy4) (cwV 1 hts gL_bar_X3_bar rfl rfl rfl (by decide +kernel) ⟨Nat.le_of_ble_eq_true rfl, Nat.le_of_ble_eq_true rfl⟩) hK hXS hP hD hS hA hl.1 [0, 1, 2, 3, 4, 5, 6, 7, 8, 9, 10, 11, 12, 13, 14, 15, 16] (by decide) rfl (fun _ => rfl) (fun _ => rfl) (fun _ => rfl) (fun _ => rfl) 3 16 rfl rfl rfl rfl rfl (Nat.le_of_ble_eq_true rfl) dL_bar_4 ⟨Nat.le_of_ble_eq_true rfl, Nat.le_of_ble_eq_true rfl⟩ (fun z4 hz E ce q9 H locs hE hP hD hS hq hv hc => ?_) (fun y4 hz H locs hP hD hS => ?_)
  · rw [hz] at hf
    have hf := sm_r hf
    rcases Decidable.em (z4.1 = 3) with c_3 | c_3
    · have hf := ite_t c_3 hf
      have hE : E = eB := by rw [hE, c_3]; rfl
      subst hE
      refine vx_catch (own := RL) (name := eB) hown [] ⟨0, 16, 19, 19⟩ [] htab (fun z hz => nomatch hz) rfl (by decide) (hts (.classLink RL 19 eB) (by decide +kernel)) (va_Nw.use rfl (hXS.2.2.2 (.castable eB eB) (by decide +kernel))) hq hv hc ?_
      refine lv_astore_n (x := q9) (lv' := [(3, .ref q9), (0, .ref (ad 16)), (1, .int p1), (2, .ref oa)]) hx hb dL_bar_19 rfl hl (by decide) rfl (fun ls hl => ?_)
      refine lv_iconst (v := 1) hx hb dL_bar_20 (by decide) ?_
      cases hf
      exact hR _ _ _ _ _ _ _ _ rfl rfl hP hD hS (Nat.le_of_ble_eq_true rfl) (Nat.le_of_ble_eq_true rfl) dL_bar_21
    have hf := ite_f c_3 hf
    exact nomatch hf
  · rw [hz] at hf
    have hf := sm_l hf
    refine lv_if_eq (tgt := 14) hx hb dL_bar_7 (by decide) (fun c_7 => ?_) (fun c_7 => ?_)
    · have hf := ite_t c_7 hf
      refine lv_lconst (v := 0) hx hb dL_bar_14 rfl ?_
      refine va_last hx hb hKJ hP hD hS 17 0 rfl rfl (show inR 0 1 from by decide) dL_bar_15 (fun H locs hP hD hS => ?_)
      have hP : va_P D vwCl (wGL cI cJ ad oa size y4.2.1 y4.2.2.1 y4.2.2.2.1 y4.2.2.2.2.1 y4.2.2.2.2.2.1 y4.2.2.2.2.2.2.1 y4.2.2.2.2.2.2.2.1 y4.2.2.2.2.2.2.2.2 bc bl td fi fa tk gr se sr (vp_updL ou ((0 : Int32)).toNatClampNeg 0)) H := hP
      have hD : va_D A (wGL cI cJ ad oa size y4.2.1 y4.2.2.1 y4.2.2.2.1 y4.2.2.2.2.1 y4.2.2.2.2.2.1 y4.2.2.2.2.2.2.1 y4.2.2.2.2.2.2.2.1 y4.2.2.2.2.2.2.2.2 bc bl td fi fa tk gr se sr (vp_updL ou ((0 : Int32)).toNatClampNeg 0)) := hD
      refine lv_goto (tgt := 22) hx hb dL_bar_16 (by decide) ?_
      refine lv_iconst (v := 0) hx hb dL_bar_22 (by decide) ?_
      cases hf
      exact hR _ _ _ _ _ _ _ _ rfl rfl hP hD hS (Nat.le_of_ble_eq_true rfl) (Nat.le_of_ble_eq_true rfl) dL_bar_23
    · have hf := ite_f c_7 hf
      refine lv_lconst (v := 1) hx hb dL_bar_10 rfl ?_
      refine lv_goto (tgt := 15) hx hb dL_bar_11 (by decide) ?_
      refine va_last hx hb hKJ hP hD hS 17 0 rfl rfl (show inR 0 1 from by decide) dL_bar_15 (fun H locs hP hD hS => ?_)
      have hP : va_P D vwCl (wGL cI cJ ad oa size y4.2.1 y4.2.2.1 y4.2.2.2.1 y4.2.2.2.2.1 y4.2.2.2.2.2.1 y4.2.2.2.2.2.2.1 y4.2.2.2.2.2.2.2.1 y4.2.2.2.2.2.2.2.2 bc bl td fi fa tk gr se sr (vp_updL ou ((0 : Int32)).toNatClampNeg 1)) H := hP
      have hD : va_D A (wGL cI cJ ad oa size y4.2.1 y4.2.2.1 y4.2.2.2.1 y4.2.2.2.2.1 y4.2.2.2.2.2.1 y4.2.2.2.2.2.2.1 y4.2.2.2.2.2.2.2.1 y4.2.2.2.2.2.2.2.2 bc bl td fi fa tk gr se sr (vp_updL ou ((0 : Int32)).toNatClampNeg 1)) := hD
      refine lv_goto (tgt := 22) hx hb dL_bar_16 (by decide) ?_
      refine lv_iconst (v := 0) hx hb dL_bar_22 (by decide) ?_
      cases hf
      exact hR _ _ _ _ _ _ _ _ rfl rfl hP hD hS (Nat.le_of_ble_eq_true rfl) (Nat.le_of_ble_eq_true rfl) dL_bar_23
def f_L_barBoth (N : Nat) (size : Int32) (rc : Int32) (g : Nat → Int32) (fs : Nat → Int32) (st : Nat → Int32) (ln : Nat → Int32) (su : Nat → Int32) (rr : Nat → Int32) (cr : Nat → Int32) (ou : Nat → Int64) (p1 : Int32) : Option (Int32 × Int32 × (Nat → Int32) × (Nat → Int32) × (Nat → Int32) × (Nat → Int32) × (Nat → Int32) × (Nat → Int32) × (Nat → Int32) × (Nat → Int64)) :=
  (f_X3_barBoth N size rc g fs st ln su rr cr p1).bind fun x4 => sm x4 (fun y4 => some (0, y4.2.1, y4.2.2.1, y4.2.2.2.1, y4.2.2.2.2.1, y4.2.2.2.2.2.1, y4.2.2.2.2.2.2.1, y4.2.2.2.2.2.2.2.1, y4.2.2.2.2.2.2.2.2, (vp_updL ou ((0 : Int32)).toNatClampNeg ((y4.1 : Int32).toInt64)))) (fun z4 => (if z4.1 = 3 then some (1, z4.2.1, z4.2.2.1, z4.2.2.2.1, z4.2.2.2.2.1, z4.2.2.2.2.2.1, z4.2.2.2.2.2.2.1, z4.2.2.2.2.2.2.2.1, z4.2.2.2.2.2.2.2.2, ou) else none))
def rm_L_barBoth : Room := { frames := 10, cells := 1, slots := 6, locals := 243 }
set_option maxRecDepth 100000 in
set_option maxHeartbeats 8000000 in
theorem K_L_barBoth (l : Launch) (hst : l.stackTraces = false) (D : va_G) (cI cZ cJ : ClassId) (ad : Nat → Nat) (oa : Nat) (sz : Nat) (N : Nat) (size rc : Int32) (g fs st ln su rr cr : Nat → Int32) (bc : Int32) (bl td fi fa : Nat → Int32) (tk gr : Int32) (se sr : Nat → Int32) (ou : Nat → Int64) (p1 : Int32) (r : (Int32 × Int32 × (Nat → Int32) × (Nat → Int32) × (Nat → Int32) × (Nat → Int32) × (Nat → Int32) × (Nat → Int32) × (Nat → Int32) × (Nat → Int64))) (hf : f_L_barBoth N size rc g fs st ln su rr cr ou p1 = some r) : Met l yL_barBoth wsL_barBoth rm_L_barBoth (PL D cI cZ cJ sz [.ref (ad 16), .int p1, .ref oa] (wGL cI cJ ad oa size rc g fs st ln su rr cr bc bl td fi fa tk gr se sr ou)) (QI D cI cZ sz (wGL cI cJ ad oa size rc g fs st ln su rr cr bc bl td fi fa tk gr se sr ou) r.1 (wGL cI cJ ad oa size r.2.1 r.2.2.1 r.2.2.2.1 r.2.2.2.2.1 r.2.2.2.2.2.1 r.2.2.2.2.2.2.1 r.2.2.2.2.2.2.2.1 r.2.2.2.2.2.2.2.2.1 bc bl td fi fa tk gr se sr r.2.2.2.2.2.2.2.2.2)) 1 6 (va_A (wGL cI cJ ad oa size rc g fs st ln su rr cr bc bl td fi fa tk gr se sr ou) sz) := by
  refine mkl_i (cc := cL_barBoth) (maxL := 4) (lv0 := [(0, .ref (ad 16)), (1, .int p1), (2, .ref oa)]) (hh := [(0, 9, 12, 19)]) rfl (by decide) rfl (Nat.le_of_ble_eq_true rfl) rfl ?_
  intro p e s m args below meth c ls A Q H hx hb hml hown hts hK hXS hKJ hNC hP hD hA hS hl htab hR
  rw [f_L_barBoth] at hf
  refine lv_aload_n hx hb dL_barBoth_0 rfl (lv_at hl 2 rfl) ?_
  refine lv_iconst (v := 0) hx hb dL_barBoth_1 (by decide) ?_
  refine lv_aload_n hx hb dL_barBoth_2 rfl (lv_at hl 0 rfl) ?_
  refine lv_iload_n hx hb dL_barBoth_3 rfl (lv_at hl 1 rfl) ?_
  obtain ⟨x4, hy4, hf⟩ := Option.bind_eq_some_iff.mp hf
  refine clX_i (As := [.int p1]) (rest := [.int 0, .ref oa]) (fun (u : Int32 × Int32 × (Nat → Int32) × (Nat → Int32) × (Nat → Int32) × (Nat → Int32) × (Nat → Int32) × (Nat → Int32) × (Nat → Int32)) => u.1) (fun (u : Int32 × Int32 × (Nat → Int32) × (Nat → Int32) × (Nat → Int32) × (Nat → Int32) × (Nat → Int32) × (Nat → Int32) × (Nat → Int32)) => wG cI ad size u.2.1 u.2.2.1 u.2.2.2.1 u.2.2.2.2.1 u.2.2.2.2.2.1 u.2.2.2.2.2.2.1 u.2.2.2.2.2.2.2.1 u.2.2.2.2.2.2.2.2 bc bl td fi fa tk gr se sr) (fun (u : Nat × Int32 × (Nat → Int32) × (Nat → Int32) × (Nat → Int32) × (Nat → Int32) × (Nat → Int32) × (Nat → Int32) × (Nat → Int32)) => u.1) (fun (u : Nat × Int32 × (Nat → Int32) × (Nat → Int32) × (Nat → Int32) × (Nat → Int32) × (Nat → Int32) × (Nat → Int32) × (Nat → Int32)) => wG cI ad size u.2.1 u.2.2.1 u.2.2.2.1 u.2.2.2.2.1 u.2.2.2.2.2.1 u.2.2.2.2.2.2.1 u.2.2.2.2.2.2.2.1 u.2.2.2.2.2.2.2.2 bc bl td fi fa tk gr se sr) (fun (u : Int32 × Int32 × (Nat → Int32) × (Nat → Int32) × (Nat → Int32) × (Nat → Int32) × (Nat → Int32) × (Nat → Int32) × (Nat → Int32)) => wGL cI cJ ad oa size u.2.1 u.2.2.1 u.2.2.2.1 u.2.2.2.2.1 u.2.2.2.2.2.1 u.2.2.2.2.2.2.1 u.2.2.2.2.2.2.2.1 u.2.2.2.2.2.2.2.2 bc bl td fi fa tk gr se sr ou) (fun (u : Nat × Int32 × (Nat → Int32) × (Nat → Int32) × (Nat → Int32) × (Nat → Int32) × (Nat → Int32) × (Nat → Int32) × (Nat → Int32)) => wGL cI cJ ad oa size u.2.1 u.2.2.1 u.2.2.2.1 u.2.2.2.2.1 u.2.2.2.2.2.1 u.2.2.2.2.2.2.1 u.2.2.2.2.2.2.2.1 u.2.2.2.2.2.2.2.2 bc bl td fi fa tk gr se sr ou) ⟨hx, hb, hml, hown, hts⟩ (K_X3_barBoth l hst D cI cZ ad H.size N size rc g fs st ln su rr cr bc bl td fi fa tk gr se sr p1 _ hy4) (cwV 1 hts gL_barBoth_X3_barBoth rfl rfl rfl (by decide +kernel) ⟨Nat.le_of_ble_eq_true rfl, Nat.le_of_ble_eq_true rfl⟩) hK hXS hP hD hS hA hl.1 [0, 1, 2, 3, 4, 5, 6, 7, 8, 9, 10, 11, 12, 13, 14, 15, 16] (by decide) rfl (fun _ => rfl) (fun _ => rfl) (fun _ => rfl) (fun _ => rfl) 3 16 rfl rfl rfl rfl rfl (Nat.le_of_ble_eq_true rfl) dL_barBoth_4 ⟨Nat.le_of_ble_eq_true rfl, Nat.le_of_ble_eq_true rfl⟩ (fun z4 hz E ce q9 H locs hE hP hD hS hq hv hc => ?_) (fun y4 hz H locs hP hD hS => ?_)
  · rw [hz] at hf
    have hf := sm_r hf
    rcases Decidable.em (z4.1 = 3) with c_3 | c_3
    · have hf := ite_t c_3 hf
      have hE : E = eB := by rw [hE, c_3]; rfl
      subst hE
      refine vx_catch (own := RL) (name := eB) hown [] ⟨0, 9, 12, 19⟩ [] htab (fun z hz => nomatch hz) rfl (by decide) (hts (.classLink RL 19 eB) (by decide +kernel)) (va_Nw.use rfl (hXS.2.2.2 (.castable eB eB) (by decide +kernel))) hq hv hc ?_
      refine lv_astore_n (x := q9) (lv' := [(3, .ref q9), (0, .ref (ad 16)), (1, .int p1), (2, .ref oa)]) hx hb dL_barBoth_12 rfl hl (by decide) rfl (fun ls hl => ?_)
      refine lv_iconst (v := 1) hx hb dL_barBoth_13 (by decide) ?_
      cases hf
      exact hR _ _ _ _ _ _ _ _ rfl rfl hP hD hS (Nat.le_of_ble_eq_true rfl) (Nat.le_of_ble_eq_true rfl) dL_barBoth_14
    have hf := ite_f c_3 hf
    exact nomatch hf
  · rw [hz] at hf
    have hf := sm_l hf
    refine lv_i2l (v := (y4.1 : Int32).toInt64) hx hb dL_barBoth_7 rfl ?_
    refine va_last hx hb hKJ hP hD hS 17 0 rfl rfl (show inR 0 1 from by decide) dL_barBoth_8 (fun H locs hP hD hS => ?_)
    have hP : va_P D vwCl (wGL cI cJ ad oa size y4.2.1 y4.2.2.1 y4.2.2.2.1 y4.2.2.2.2.1 y4.2.2.2.2.2.1 y4.2.2.2.2.2.2.1 y4.2.2.2.2.2.2.2.1 y4.2.2.2.2.2.2.2.2 bc bl td fi fa tk gr se sr (vp_updL ou ((0 : Int32)).toNatClampNeg ((y4.1 : Int32).toInt64))) H := hP
    have hD : va_D A (wGL cI cJ ad oa size y4.2.1 y4.2.2.1 y4.2.2.2.1 y4.2.2.2.2.1 y4.2.2.2.2.2.1 y4.2.2.2.2.2.2.1 y4.2.2.2.2.2.2.2.1 y4.2.2.2.2.2.2.2.2 bc bl td fi fa tk gr se sr (vp_updL ou ((0 : Int32)).toNatClampNeg ((y4.1 : Int32).toInt64))) := hD
    refine lv_goto (tgt := 15) hx hb dL_barBoth_9 (by decide) ?_
    refine lv_iconst (v := 0) hx hb dL_barBoth_15 (by decide) ?_
    cases hf
    exact hR _ _ _ _ _ _ _ _ rfl rfl hP hD hS (Nat.le_of_ble_eq_true rfl) (Nat.le_of_ble_eq_true rfl) dL_barBoth_16
def f_L_give (size : Int32) (g : Nat → Int32) (ou : Nat → Int64) (p1 : Int32) (p2 : Int32) : Option (Int32 × (Nat → Int32) × (Nat → Int64)) :=
  (f_X3_give size g p1 p2).bind fun x5 => sm x5 (fun y5 => some (0, y5.2, (vp_updL ou ((0 : Int32)).toNatClampNeg ((y5.1 : Int32).toInt64)))) (fun z5 => (if z5.1 = 3 then some (1, z5.2, ou) else if z5.1 = 1 then some (2, z5.2, ou) else if z5.1 = 2 then some (3, z5.2, ou) else none))
def rm_L_give : Room := { frames := 10, cells := 2, slots := 12, locals := 244 }
set_option maxRecDepth 100000 in
set_option maxHeartbeats 8000000 in
theorem K_L_give (l : Launch) (hst : l.stackTraces = false) (D : va_G) (cI cZ cJ : ClassId) (ad : Nat → Nat) (oa : Nat) (sz : Nat) (size rc : Int32) (g fs st ln su rr cr : Nat → Int32) (bc : Int32) (bl td fi fa : Nat → Int32) (tk gr : Int32) (se sr : Nat → Int32) (ou : Nat → Int64) (p1 : Int32) (p2 : Int32) (r : (Int32 × (Nat → Int32) × (Nat → Int64))) (hf : f_L_give size g ou p1 p2 = some r) : Met l yL_give wsL_give rm_L_give (PL D cI cZ cJ sz [.ref (ad 16), .int p1, .int p2, .ref oa] (wGL cI cJ ad oa size rc g fs st ln su rr cr bc bl td fi fa tk gr se sr ou)) (QI D cI cZ sz (wGL cI cJ ad oa size rc g fs st ln su rr cr bc bl td fi fa tk gr se sr ou) r.1 (wGL cI cJ ad oa size rc r.2.1 fs st ln su rr cr bc bl td fi fa tk gr se sr r.2.2)) 2 12 (va_A (wGL cI cJ ad oa size rc g fs st ln su rr cr bc bl td fi fa tk gr se sr ou) sz) := by
  refine mkl_i (cc := cL_give) (maxL := 5) (lv0 := [(0, .ref (ad 16)), (1, .int p1), (2, .int p2), (3, .ref oa)]) (hh := [(0, 10, 13, 19), (0, 10, 17, 13), (0, 10, 21, 29)]) rfl (by decide) rfl (Nat.le_of_ble_eq_true rfl) rfl ?_
  intro p e s m args below meth c ls A Q H hx hb hml hown hts hK hXS hKJ hNC hP hD hA hS hl htab hR
  rw [f_L_give] at hf
  refine lv_aload_n hx hb dL_give_0 rfl (lv_at hl 3 rfl) ?_
  refine lv_iconst (v := 0) hx hb dL_give_1 (by decide) ?_
  refine lv_aload_n hx hb dL_give_2 rfl (lv_at hl 0 rfl) ?_
  refine lv_iload_n hx hb dL_give_3 rfl (lv_at hl 1 rfl) ?_
  refine lv_iload_n hx hb dL_give_4 rfl (lv_at hl 2 rfl) ?_
  obtain ⟨x5, hy5, hf⟩ := Option.bind_eq_some_iff.mp hf
  refine clX_i (As := [.int p1, .int p2]) (rest := [.int 0, .ref oa]) (fun (u : Int32 × (Nat → Int32)) => u.1) (fun (u : Int32 × (Nat → Int32)) => wG cI ad size rc u.2 fs st ln su rr cr bc bl td fi fa tk gr se sr) (fun (u : Nat × (Nat → Int32)) => u.1) (fun (u : Nat × (Nat → Int32)) => wG cI ad size rc u.2 fs st ln su rr cr bc bl td fi fa tk gr se sr) (fun (u : Int32 × (Nat → Int32)) => wGL cI cJ ad oa size rc u.2 fs st ln su rr cr bc bl td fi fa tk gr se sr ou) (fun (u : Nat × (Nat → Int32)) => wGL cI cJ ad oa size rc u.2 fs st ln su rr cr bc bl td fi fa tk gr se sr ou) ⟨hx, hb, hml, hown, hts⟩ (K_X3_give l hst D cI cZ ad H.size size rc g fs st ln su rr cr bc bl td fi fa tk gr se sr p1 p2 _ hy5) (cwV 2 hts gL_give_X3_give rfl rfl rfl (by decide +kernel) ⟨Nat.le_of_ble_eq_true rfl, Nat.le_of_ble_eq_true rfl⟩) hK hXS hP hD hS hA hl.1 [0, 1, 2, 3, 4, 5, 6, 7, 8, 9, 10, 11, 12, 13, 14, 15, 16] (by decide) rfl (fun _ => rfl) (fun _ => rfl) (fun _ => rfl) (fun _ => rfl) 3 16 rfl rfl rfl rfl rfl (Nat.le_of_ble_eq_true rfl) dL_give_5 ⟨Nat.le_of_ble_eq_true rfl, Nat.le_of_ble_eq_true rfl⟩ (fun z5 hz E ce q9 H locs hE hP hD hS hq hv hc => ?_) (fun y5 hz H locs hP hD hS => ?_)
  · rw [hz] at hf
    have hf := sm_r hf
    rcases Decidable.em (z5.1 = 3) with c_3 | c_3
    · have hf := ite_t c_3 hf
      have hE : E = eB := by rw [hE, c_3]; rfl
      subst hE
      refine vx_catch (own := RL) (name := eB) hown [] ⟨0, 10, 13, 19⟩ [⟨0, 10, 17, 13⟩, ⟨0, 10, 21, 29⟩] htab (fun z hz => nomatch hz) rfl (by decide) (hts (.classLink RL 19 eB) (by decide +kernel)) (va_Nw.use rfl (hXS.2.2.2 (.castable eB eB) (by decide +kernel))) hq hv hc ?_
      refine lv_astore (x := q9) (lv' := [(4, .ref q9), (0, .ref (ad 16)), (1, .int p1), (2, .int p2), (3, .ref oa)]) hx hb dL_give_13 hl (by decide) rfl (fun ls hl => ?_)
      refine lv_iconst (v := 1) hx hb dL_give_15 (by decide) ?_
      cases hf
      exact hR _ _ _ _ _ _ _ _ rfl rfl hP hD hS (Nat.le_of_ble_eq_true rfl) (Nat.le_of_ble_eq_true rfl) dL_give_16
    have hf := ite_f c_3 hf
    rcases Decidable.em (z5.1 = 1) with c_1 | c_1
    · have hf := ite_t c_1 hf
      have hE : E = eA := by rw [hE, c_1]; rfl
      subst hE
      refine vx_catch (own := RL) (name := eA) hown [⟨0, 10, 13, 19⟩] ⟨0, 10, 17, 13⟩ [⟨0, 10, 21, 29⟩] htab (fun z hz => by rw [List.mem_singleton] at hz; subst hz; exact Or.inr ⟨by decide, eB, hts (.classLink RL 19 eB) (by decide +kernel), hNC.1⟩) rfl (by decide) (hts (.classLink RL 13 eA) (by decide +kernel)) (va_Nw.use rfl (hXS.2.2.2 (.castable eA eA) (by decide +kernel))) hq hv hc ?_
      refine lv_astore (x := q9) (lv' := [(4, .ref q9), (0, .ref (ad 16)), (1, .int p1), (2, .int p2), (3, .ref oa)]) hx hb dL_give_17 hl (by decide) rfl (fun ls hl => ?_)
      refine lv_iconst (v := 2) hx hb dL_give_19 (by decide) ?_
      cases hf
      exact hR _ _ _ _ _ _ _ _ rfl rfl hP hD hS (Nat.le_of_ble_eq_true rfl) (Nat.le_of_ble_eq_true rfl) dL_give_20
    have hf := ite_f c_1 hf
    rcases Decidable.em (z5.1 = 2) with c_2 | c_2
    · have hf := ite_t c_2 hf
      have hE : E = eS := by rw [hE, c_2]; rfl
      subst hE
      refine vx_catch (own := RL) (name := eS) hown [⟨0, 10, 13, 19⟩, ⟨0, 10, 17, 13⟩] ⟨0, 10, 21, 29⟩ [] htab (fun z hz => (List.mem_cons.mp hz).elim (fun h => by subst h; exact Or.inr ⟨by decide, eB, hts (.classLink RL 19 eB) (by decide +kernel), hNC.2.1⟩) (fun h => by rw [List.mem_singleton] at h; subst h; exact Or.inr ⟨by decide, eA, hts (.classLink RL 13 eA) (by decide +kernel), hNC.2.2⟩)) rfl (by decide) (hts (.classLink RL 29 eS) (by decide +kernel)) (va_Nw.use rfl (hXS.2.2.2 (.castable eS eS) (by decide +kernel))) hq hv hc ?_
      refine lv_astore (x := q9) (lv' := [(4, .ref q9), (0, .ref (ad 16)), (1, .int p1), (2, .int p2), (3, .ref oa)]) hx hb dL_give_21 hl (by decide) rfl (fun ls hl => ?_)
      refine lv_iconst (v := 3) hx hb dL_give_23 (by decide) ?_
      cases hf
      exact hR _ _ _ _ _ _ _ _ rfl rfl hP hD hS (Nat.le_of_ble_eq_true rfl) (Nat.le_of_ble_eq_true rfl) dL_give_24
    have hf := ite_f c_2 hf
    exact nomatch hf
  · rw [hz] at hf
    have hf := sm_l hf
    refine lv_i2l (v := (y5.1 : Int32).toInt64) hx hb dL_give_8 rfl ?_
    refine va_last hx hb hKJ hP hD hS 17 0 rfl rfl (show inR 0 1 from by decide) dL_give_9 (fun H locs hP hD hS => ?_)
    have hP : va_P D vwCl (wGL cI cJ ad oa size rc y5.2 fs st ln su rr cr bc bl td fi fa tk gr se sr (vp_updL ou ((0 : Int32)).toNatClampNeg ((y5.1 : Int32).toInt64))) H := hP
    have hD : va_D A (wGL cI cJ ad oa size rc y5.2 fs st ln su rr cr bc bl td fi fa tk gr se sr (vp_updL ou ((0 : Int32)).toNatClampNeg ((y5.1 : Int32).toInt64))) := hD
    refine lv_goto (tgt := 25) hx hb dL_give_10 (by decide) ?_
    refine lv_iconst (v := 0) hx hb dL_give_25 (by decide) ?_
    cases hf
    exact hR _ _ _ _ _ _ _ _ rfl rfl hP hD hS (Nat.le_of_ble_eq_true rfl) (Nat.le_of_ble_eq_true rfl) dL_give_26
def f_L_setSum (rc : Int32) (su : Nat → Int32) (ou : Nat → Int64) (p1 : Int32) (p2 : Int32) : Option (Int32 × (Nat → Int32) × (Nat → Int64)) :=
  (f_X3_setSum rc su p1 p2).bind fun x5 => sm x5 (fun y5 => some (0, y5.2, (vp_updL ou ((0 : Int32)).toNatClampNeg ((y5.1 : Int32).toInt64)))) (fun z5 => (if z5.1 = 3 then some (1, z5.2, ou) else if z5.1 = 1 then some (2, z5.2, ou) else none))
def rm_L_setSum : Room := { frames := 10, cells := 2, slots := 12, locals := 244 }
set_option maxRecDepth 100000 in
set_option maxHeartbeats 8000000 in
theorem K_L_setSum (l : Launch) (hst : l.stackTraces = false) (D : va_G) (cI cZ cJ : ClassId) (ad : Nat → Nat) (oa : Nat) (sz : Nat) (size rc : Int32) (g fs st ln su rr cr : Nat → Int32) (bc : Int32) (bl td fi fa : Nat → Int32) (tk gr : Int32) (se sr : Nat → Int32) (ou : Nat → Int64) (p1 : Int32) (p2 : Int32) (r : (Int32 × (Nat → Int32) × (Nat → Int64))) (hf : f_L_setSum rc su ou p1 p2 = some r) : Met l yL_setSum wsL_setSum rm_L_setSum (PL D cI cZ cJ sz [.ref (ad 16), .int p1, .int p2, .ref oa] (wGL cI cJ ad oa size rc g fs st ln su rr cr bc bl td fi fa tk gr se sr ou)) (QI D cI cZ sz (wGL cI cJ ad oa size rc g fs st ln su rr cr bc bl td fi fa tk gr se sr ou) r.1 (wGL cI cJ ad oa size rc g fs st ln r.2.1 rr cr bc bl td fi fa tk gr se sr r.2.2)) 2 12 (va_A (wGL cI cJ ad oa size rc g fs st ln su rr cr bc bl td fi fa tk gr se sr ou) sz) := by
  refine mkl_i (cc := cL_setSum) (maxL := 5) (lv0 := [(0, .ref (ad 16)), (1, .int p1), (2, .int p2), (3, .ref oa)]) (hh := [(0, 10, 13, 19), (0, 10, 17, 13)]) rfl (by decide) rfl (Nat.le_of_ble_eq_true rfl) rfl ?_
  intro p e s m args below meth c ls A Q H hx hb hml hown hts hK hXS hKJ hNC hP hD hA hS hl htab hR
  rw [f_L_setSum] at hf
  refine lv_aload_n hx hb dL_setSum_0 rfl (lv_at hl 3 rfl) ?_
  refine lv_iconst (v := 0) hx hb dL_setSum_1 (by decide) ?_
  refine lv_aload_n hx hb dL_setSum_2 rfl (lv_at hl 0 rfl) ?_
  refine lv_iload_n hx hb dL_setSum_3 rfl (lv_at hl 1 rfl) ?_
  refine lv_iload_n hx hb dL_setSum_4 rfl (lv_at hl 2 rfl) ?_
  obtain ⟨x5, hy5, hf⟩ := Option.bind_eq_some_iff.mp hf
  refine clX_i (As := [.int p1, .int p2]) (rest := [.int 0, .ref oa]) (fun (u : Int32 × (Nat → Int32)) => u.1) (fun (u : Int32 × (Nat → Int32)) => wG cI ad size rc g fs st ln u.2 rr cr bc bl td fi fa tk gr se sr) (fun (u : Nat × (Nat → Int32)) => u.1) (fun (u : Nat × (Nat → Int32)) => wG cI ad size rc g fs st ln u.2 rr cr bc bl td fi fa tk gr se sr) (fun (u : Int32 × (Nat → Int32)) => wGL cI cJ ad oa size rc g fs st ln u.2 rr cr bc bl td fi fa tk gr se sr ou) (fun (u : Nat × (Nat → Int32)) => wGL cI cJ ad oa size rc g fs st ln u.2 rr cr bc bl td fi fa tk gr se sr ou) ⟨hx, hb, hml, hown, hts⟩ (K_X3_setSum l hst D cI cZ ad H.size size rc g fs st ln su rr cr bc bl td fi fa tk gr se sr p1 p2 _ hy5) (cwV 2 hts gL_setSum_X3_setSum rfl rfl rfl (by decide +kernel) ⟨Nat.le_of_ble_eq_true rfl, Nat.le_of_ble_eq_true rfl⟩) hK hXS hP hD hS hA hl.1 [0, 1, 2, 3, 4, 5, 6, 7, 8, 9, 10, 11, 12, 13, 14, 15, 16] (by decide) rfl (fun _ => rfl) (fun _ => rfl) (fun _ => rfl) (fun _ => rfl) 3 16 rfl rfl rfl rfl rfl (Nat.le_of_ble_eq_true rfl) dL_setSum_5 ⟨Nat.le_of_ble_eq_true rfl, Nat.le_of_ble_eq_true rfl⟩ (fun z5 hz E ce q9 H locs hE hP hD hS hq hv hc => ?_) (fun y5 hz H locs hP hD hS => ?_)
  · rw [hz] at hf
    have hf := sm_r hf
    rcases Decidable.em (z5.1 = 3) with c_3 | c_3
    · have hf := ite_t c_3 hf
      have hE : E = eB := by rw [hE, c_3]; rfl
      subst hE
      refine vx_catch (own := RL) (name := eB) hown [] ⟨0, 10, 13, 19⟩ [⟨0, 10, 17, 13⟩] htab (fun z hz => nomatch hz) rfl (by decide) (hts (.classLink RL 19 eB) (by decide +kernel)) (va_Nw.use rfl (hXS.2.2.2 (.castable eB eB) (by decide +kernel))) hq hv hc ?_
      refine lv_astore (x := q9) (lv' := [(4, .ref q9), (0, .ref (ad 16)), (1, .int p1), (2, .int p2), (3, .ref oa)]) hx hb dL_setSum_13 hl (by decide) rfl (fun ls hl => ?_)
      refine lv_iconst (v := 1) hx hb dL_setSum_15 (by decide) ?_
      cases hf
      exact hR _ _ _ _ _ _ _ _ rfl rfl hP hD hS (Nat.le_of_ble_eq_true rfl) (Nat.le_of_ble_eq_true rfl) dL_setSum_16
    have hf := ite_f c_3 hf
    rcases Decidable.em (z5.1 = 1) with c_1 | c_1
    · have hf := ite_t c_1 hf
      have hE : E = eA := by rw [hE, c_1]; rfl
      subst hE
      refine vx_catch (own := RL) (name := eA) hown [⟨0, 10, 13, 19⟩] ⟨0, 10, 17, 13⟩ [] htab (fun z hz => by rw [List.mem_singleton] at hz; subst hz; exact Or.inr ⟨by decide, eB, hts (.classLink RL 19 eB) (by decide +kernel), hNC.1⟩) rfl (by decide) (hts (.classLink RL 13 eA) (by decide +kernel)) (va_Nw.use rfl (hXS.2.2.2 (.castable eA eA) (by decide +kernel))) hq hv hc ?_
      refine lv_astore (x := q9) (lv' := [(4, .ref q9), (0, .ref (ad 16)), (1, .int p1), (2, .int p2), (3, .ref oa)]) hx hb dL_setSum_17 hl (by decide) rfl (fun ls hl => ?_)
      refine lv_iconst (v := 2) hx hb dL_setSum_19 (by decide) ?_
      cases hf
      exact hR _ _ _ _ _ _ _ _ rfl rfl hP hD hS (Nat.le_of_ble_eq_true rfl) (Nat.le_of_ble_eq_true rfl) dL_setSum_20
    have hf := ite_f c_1 hf
    exact nomatch hf
  · rw [hz] at hf
    have hf := sm_l hf
    refine lv_i2l (v := (y5.1 : Int32).toInt64) hx hb dL_setSum_8 rfl ?_
    refine va_last hx hb hKJ hP hD hS 17 0 rfl rfl (show inR 0 1 from by decide) dL_setSum_9 (fun H locs hP hD hS => ?_)
    have hP : va_P D vwCl (wGL cI cJ ad oa size rc g fs st ln y5.2 rr cr bc bl td fi fa tk gr se sr (vp_updL ou ((0 : Int32)).toNatClampNeg ((y5.1 : Int32).toInt64))) H := hP
    have hD : va_D A (wGL cI cJ ad oa size rc g fs st ln y5.2 rr cr bc bl td fi fa tk gr se sr (vp_updL ou ((0 : Int32)).toNatClampNeg ((y5.1 : Int32).toInt64))) := hD
    refine lv_goto (tgt := 21) hx hb dL_setSum_10 (by decide) ?_
    refine lv_iconst (v := 0) hx hb dL_setSum_21 (by decide) ?_
    cases hf
    exact hR _ _ _ _ _ _ _ _ rfl rfl hP hD hS (Nat.le_of_ble_eq_true rfl) (Nat.le_of_ble_eq_true rfl) dL_setSum_22
def f_L_press (N : Nat) (size : Int32) (rc : Int32) (g : Nat → Int32) (fs : Nat → Int32) (st : Nat → Int32) (ln : Nat → Int32) (su : Nat → Int32) (ou : Nat → Int64) : Option (Int32 × (Nat → Int32) × (Nat → Int32) × (Nat → Int64)) :=
  (f_X3_press N size rc g fs st ln su).bind fun x3 => sm x3 (fun y3 => some (0, y3.2.1, y3.2.2, (vp_updL ou ((0 : Int32)).toNatClampNeg ((y3.1 : Int32).toInt64)))) (fun z3 => (if z3.1 = 2 then some (1, z3.2.1, z3.2.2, ou) else none))
def rm_L_press : Room := { frames := 9, cells := 1, slots := 6, locals := 220 }
set_option maxRecDepth 100000 in
set_option maxHeartbeats 8000000 in
theorem K_L_press (l : Launch) (hst : l.stackTraces = false) (D : va_G) (cI cZ cJ : ClassId) (ad : Nat → Nat) (oa : Nat) (sz : Nat) (N : Nat) (size rc : Int32) (g fs st ln su rr cr : Nat → Int32) (bc : Int32) (bl td fi fa : Nat → Int32) (tk gr : Int32) (se sr : Nat → Int32) (ou : Nat → Int64) (r : (Int32 × (Nat → Int32) × (Nat → Int32) × (Nat → Int64))) (hf : f_L_press N size rc g fs st ln su ou = some r) : Met l yL_press wsL_press rm_L_press (PL D cI cZ cJ sz [.ref (ad 16), .ref oa] (wGL cI cJ ad oa size rc g fs st ln su rr cr bc bl td fi fa tk gr se sr ou)) (QI D cI cZ sz (wGL cI cJ ad oa size rc g fs st ln su rr cr bc bl td fi fa tk gr se sr ou) r.1 (wGL cI cJ ad oa size rc r.2.1 fs st ln r.2.2.1 rr cr bc bl td fi fa tk gr se sr r.2.2.2)) 1 6 (va_A (wGL cI cJ ad oa size rc g fs st ln su rr cr bc bl td fi fa tk gr se sr ou) sz) := by
  refine mkl_i (cc := cL_press) (maxL := 3) (lv0 := [(0, .ref (ad 16)), (1, .ref oa)]) (hh := [(0, 8, 11, 29)]) rfl (by decide) rfl (Nat.le_of_ble_eq_true rfl) rfl ?_
  intro p e s m args below meth c ls A Q H hx hb hml hown hts hK hXS hKJ hNC hP hD hA hS hl htab hR
  rw [f_L_press] at hf
  refine lv_aload_n hx hb dL_press_0 rfl (lv_at hl 1 rfl) ?_
  refine lv_iconst (v := 0) hx hb dL_press_1 (by decide) ?_
  refine lv_aload_n hx hb dL_press_2 rfl (lv_at hl 0 rfl) ?_
  obtain ⟨x3, hy3, hf⟩ := Option.bind_eq_some_iff.mp hf
  refine clX_i (As := []) (rest := [.int 0, .ref oa]) (fun (u : Int32 × (Nat → Int32) × (Nat → Int32)) => u.1) (fun (u : Int32 × (Nat → Int32) × (Nat → Int32)) => wG cI ad size rc u.2.1 fs st ln u.2.2 rr cr bc bl td fi fa tk gr se sr) (fun (u : Nat × (Nat → Int32) × (Nat → Int32)) => u.1) (fun (u : Nat × (Nat → Int32) × (Nat → Int32)) => wG cI ad size rc u.2.1 fs st ln u.2.2 rr cr bc bl td fi fa tk gr se sr) (fun (u : Int32 × (Nat → Int32) × (Nat → Int32)) => wGL cI cJ ad oa size rc u.2.1 fs st ln u.2.2 rr cr bc bl td fi fa tk gr se sr ou) (fun (u : Nat × (Nat → Int32) × (Nat → Int32)) => wGL cI cJ ad oa size rc u.2.1 fs st ln u.2.2 rr cr bc bl td fi fa tk gr se sr ou) ⟨hx, hb, hml, hown, hts⟩ (K_X3_press l hst D cI cZ ad H.size N size rc g fs st ln su rr cr bc bl td fi fa tk gr se sr _ hy3) (cwV 0 hts gL_press_X3_press rfl rfl rfl (by decide +kernel) ⟨Nat.le_of_ble_eq_true rfl, Nat.le_of_ble_eq_true rfl⟩) hK hXS hP hD hS hA hl.1 [0, 1, 2, 3, 4, 5, 6, 7, 8, 9, 10, 11, 12, 13, 14, 15, 16] (by decide) rfl (fun _ => rfl) (fun _ => rfl) (fun _ => rfl) (fun _ => rfl) 3 16 rfl rfl rfl rfl rfl (Nat.le_of_ble_eq_true rfl) dL_press_3 ⟨Nat.le_of_ble_eq_true rfl, Nat.le_of_ble_eq_true rfl⟩ (fun z3 hz E ce q9 H locs hE hP hD hS hq hv hc => ?_) (fun y3 hz H locs hP hD hS => ?_)
  · rw [hz] at hf
    have hf := sm_r hf
    rcases Decidable.em (z3.1 = 2) with c_2 | c_2
    · have hf := ite_t c_2 hf
      have hE : E = eS := by rw [hE, c_2]; rfl
      subst hE
      refine vx_catch (own := RL) (name := eS) hown [] ⟨0, 8, 11, 29⟩ [] htab (fun z hz => nomatch hz) rfl (by decide) (hts (.classLink RL 29 eS) (by decide +kernel)) (va_Nw.use rfl (hXS.2.2.2 (.castable eS eS) (by decide +kernel))) hq hv hc ?_
      refine lv_astore_n (x := q9) (lv' := [(2, .ref q9), (0, .ref (ad 16)), (1, .ref oa)]) hx hb dL_press_11 rfl hl (by decide) rfl (fun ls hl => ?_)
      refine lv_iconst (v := 1) hx hb dL_press_12 (by decide) ?_
      cases hf
      exact hR _ _ _ _ _ _ _ _ rfl rfl hP hD hS (Nat.le_of_ble_eq_true rfl) (Nat.le_of_ble_eq_true rfl) dL_press_13
    have hf := ite_f c_2 hf
    exact nomatch hf
  · rw [hz] at hf
    have hf := sm_l hf
    refine lv_i2l (v := (y3.1 : Int32).toInt64) hx hb dL_press_6 rfl ?_
    refine va_last hx hb hKJ hP hD hS 17 0 rfl rfl (show inR 0 1 from by decide) dL_press_7 (fun H locs hP hD hS => ?_)
    have hP : va_P D vwCl (wGL cI cJ ad oa size rc y3.2.1 fs st ln y3.2.2 rr cr bc bl td fi fa tk gr se sr (vp_updL ou ((0 : Int32)).toNatClampNeg ((y3.1 : Int32).toInt64))) H := hP
    have hD : va_D A (wGL cI cJ ad oa size rc y3.2.1 fs st ln y3.2.2 rr cr bc bl td fi fa tk gr se sr (vp_updL ou ((0 : Int32)).toNatClampNeg ((y3.1 : Int32).toInt64))) := hD
    refine lv_goto (tgt := 14) hx hb dL_press_8 (by decide) ?_
    refine lv_iconst (v := 0) hx hb dL_press_14 (by decide) ?_
    cases hf
    exact hR _ _ _ _ _ _ _ _ rfl rfl hP hD hS (Nat.le_of_ble_eq_true rfl) (Nat.le_of_ble_eq_true rfl) dL_press_15
def f_L_firstOf (rc : Int32) (fs : Nat → Int32) (ou : Nat → Int64) (p1 : Int32) : Option (Int32 × (Nat → Int64)) :=
  (f_X3_firstOf rc fs p1).bind fun x4 => sm x4 (fun y4 => some (0, (vp_updL ou ((0 : Int32)).toNatClampNeg ((y4 : Int32).toInt64)))) (fun z4 => (if z4 = 3 then some (1, ou) else none))
def rm_L_firstOf : Room := { frames := 10, cells := 1, slots := 6, locals := 242 }
set_option maxRecDepth 100000 in
set_option maxHeartbeats 8000000 in
theorem K_L_firstOf (l : Launch) (hst : l.stackTraces = false) (D : va_G) (cI cZ cJ : ClassId) (ad : Nat → Nat) (oa : Nat) (sz : Nat) (size rc : Int32) (g fs st ln su rr cr : Nat → Int32) (bc : Int32) (bl td fi fa : Nat → Int32) (tk gr : Int32) (se sr : Nat → Int32) (ou : Nat → Int64) (p1 : Int32) (r : (Int32 × (Nat → Int64))) (hf : f_L_firstOf rc fs ou p1 = some r) : Met l yL_firstOf wsL_firstOf rm_L_firstOf (PL D cI cZ cJ sz [.ref (ad 16), .int p1, .ref oa] (wGL cI cJ ad oa size rc g fs st ln su rr cr bc bl td fi fa tk gr se sr ou)) (QI D cI cZ sz (wGL cI cJ ad oa size rc g fs st ln su rr cr bc bl td fi fa tk gr se sr ou) r.1 (wGL cI cJ ad oa size rc g fs st ln su rr cr bc bl td fi fa tk gr se sr r.2)) 1 6 (va_A (wGL cI cJ ad oa size rc g fs st ln su rr cr bc bl td fi fa tk gr se sr ou) sz) := by
  refine mkl_i (cc := cL_firstOf) (maxL := 4) (lv0 := [(0, .ref (ad 16)), (1, .int p1), (2, .ref oa)]) (hh := [(0, 9, 12, 19)]) rfl (by decide) rfl (Nat.le_of_ble_eq_true rfl) rfl ?_
  intro p e s m args below meth c ls A Q H hx hb hml hown hts hK hXS hKJ hNC hP hD hA hS hl htab hR
  rw [f_L_firstOf] at hf
  refine lv_aload_n hx hb dL_firstOf_0 rfl (lv_at hl 2 rfl) ?_
  refine lv_iconst (v := 0) hx hb dL_firstOf_1 (by decide) ?_
  refine lv_aload_n hx hb dL_firstOf_2 rfl (lv_at hl 0 rfl) ?_
  refine lv_iload_n hx hb dL_firstOf_3 rfl (lv_at hl 1 rfl) ?_
  obtain ⟨x4, hy4, hf⟩ := Option.bind_eq_some_iff.mp hf
  refine clX_i (As := [.int p1]) (rest := [.int 0, .ref oa]) (fun (u : Int32) => u) (fun (u : Int32) => wG cI ad size rc g fs st ln su rr cr bc bl td fi fa tk gr se sr) (fun (u : Nat) => u) (fun (u : Nat) => wG cI ad size rc g fs st ln su rr cr bc bl td fi fa tk gr se sr) (fun (u : Int32) => wGL cI cJ ad oa size rc g fs st ln su rr cr bc bl td fi fa tk gr se sr ou) (fun (u : Nat) => wGL cI cJ ad oa size rc g fs st ln su rr cr bc bl td fi fa tk gr se sr ou) ⟨hx, hb, hml, hown, hts⟩ (K_X3_firstOf l hst D cI cZ ad H.size size rc g fs st ln su rr cr bc bl td fi fa tk gr se sr p1 _ hy4) (cwV 1 hts gL_firstOf_X3_firstOf rfl rfl rfl (by decide +kernel) ⟨Nat.le_of_ble_eq_true rfl, Nat.le_of_ble_eq_true rfl⟩) hK hXS hP hD hS hA hl.1 [0, 1, 2, 3, 4, 5, 6, 7, 8, 9, 10, 11, 12, 13, 14, 15, 16] (by decide) rfl (fun _ => rfl) (fun _ => rfl) (fun _ => rfl) (fun _ => rfl) 3 16 rfl rfl rfl rfl rfl (Nat.le_of_ble_eq_true rfl) dL_firstOf_4 ⟨Nat.le_of_ble_eq_true rfl, Nat.le_of_ble_eq_true rfl⟩ (fun z4 hz E ce q9 H locs hE hP hD hS hq hv hc => ?_) (fun y4 hz H locs hP hD hS => ?_)
  · rw [hz] at hf
    have hf := sm_r hf
    rcases Decidable.em (z4 = 3) with c_3 | c_3
    · have hf := ite_t c_3 hf
      have hE : E = eB := by rw [hE, c_3]; rfl
      subst hE
      refine vx_catch (own := RL) (name := eB) hown [] ⟨0, 9, 12, 19⟩ [] htab (fun z hz => nomatch hz) rfl (by decide) (hts (.classLink RL 19 eB) (by decide +kernel)) (va_Nw.use rfl (hXS.2.2.2 (.castable eB eB) (by decide +kernel))) hq hv hc ?_
      refine lv_astore_n (x := q9) (lv' := [(3, .ref q9), (0, .ref (ad 16)), (1, .int p1), (2, .ref oa)]) hx hb dL_firstOf_12 rfl hl (by decide) rfl (fun ls hl => ?_)
      refine lv_iconst (v := 1) hx hb dL_firstOf_13 (by decide) ?_
      cases hf
      exact hR _ _ _ _ _ _ _ _ rfl rfl hP hD hS (Nat.le_of_ble_eq_true rfl) (Nat.le_of_ble_eq_true rfl) dL_firstOf_14
    have hf := ite_f c_3 hf
    exact nomatch hf
  · rw [hz] at hf
    have hf := sm_l hf
    refine lv_i2l (v := (y4 : Int32).toInt64) hx hb dL_firstOf_7 rfl ?_
    refine va_last hx hb hKJ hP hD hS 17 0 rfl rfl (show inR 0 1 from by decide) dL_firstOf_8 (fun H locs hP hD hS => ?_)
    have hP : va_P D vwCl (wGL cI cJ ad oa size rc g fs st ln su rr cr bc bl td fi fa tk gr se sr (vp_updL ou ((0 : Int32)).toNatClampNeg ((y4 : Int32).toInt64))) H := hP
    have hD : va_D A (wGL cI cJ ad oa size rc g fs st ln su rr cr bc bl td fi fa tk gr se sr (vp_updL ou ((0 : Int32)).toNatClampNeg ((y4 : Int32).toInt64))) := hD
    refine lv_goto (tgt := 15) hx hb dL_firstOf_9 (by decide) ?_
    refine lv_iconst (v := 0) hx hb dL_firstOf_15 (by decide) ?_
    cases hf
    exact hR _ _ _ _ _ _ _ _ rfl rfl hP hD hS (Nat.le_of_ble_eq_true rfl) (Nat.le_of_ble_eq_true rfl) dL_firstOf_16
def f_L_lengthOf (rc : Int32) (ln : Nat → Int32) (ou : Nat → Int64) (p1 : Int32) : Option (Int32 × (Nat → Int64)) :=
  (f_X3_lengthOf rc ln p1).bind fun x4 => sm x4 (fun y4 => some (0, (vp_updL ou ((0 : Int32)).toNatClampNeg ((y4 : Int32).toInt64)))) (fun z4 => (if z4 = 3 then some (1, ou) else none))
def rm_L_lengthOf : Room := { frames := 10, cells := 1, slots := 6, locals := 242 }
set_option maxRecDepth 100000 in
set_option maxHeartbeats 8000000 in
theorem K_L_lengthOf (l : Launch) (hst : l.stackTraces = false) (D : va_G) (cI cZ cJ : ClassId) (ad : Nat → Nat) (oa : Nat) (sz : Nat) (size rc : Int32) (g fs st ln su rr cr : Nat → Int32) (bc : Int32) (bl td fi fa : Nat → Int32) (tk gr : Int32) (se sr : Nat → Int32) (ou : Nat → Int64) (p1 : Int32) (r : (Int32 × (Nat → Int64))) (hf : f_L_lengthOf rc ln ou p1 = some r) : Met l yL_lengthOf wsL_lengthOf rm_L_lengthOf (PL D cI cZ cJ sz [.ref (ad 16), .int p1, .ref oa] (wGL cI cJ ad oa size rc g fs st ln su rr cr bc bl td fi fa tk gr se sr ou)) (QI D cI cZ sz (wGL cI cJ ad oa size rc g fs st ln su rr cr bc bl td fi fa tk gr se sr ou) r.1 (wGL cI cJ ad oa size rc g fs st ln su rr cr bc bl td fi fa tk gr se sr r.2)) 1 6 (va_A (wGL cI cJ ad oa size rc g fs st ln su rr cr bc bl td fi fa tk gr se sr ou) sz) := by
  refine mkl_i (cc := cL_lengthOf) (maxL := 4) (lv0 := [(0, .ref (ad 16)), (1, .int p1), (2, .ref oa)]) (hh := [(0, 9, 12, 19)]) rfl (by decide) rfl (Nat.le_of_ble_eq_true rfl) rfl ?_
  intro p e s m args below meth c ls A Q H hx hb hml hown hts hK hXS hKJ hNC hP hD hA hS hl htab hR
  rw [f_L_lengthOf] at hf
  refine lv_aload_n hx hb dL_lengthOf_0 rfl (lv_at hl 2 rfl) ?_
  refine lv_iconst (v := 0) hx hb dL_lengthOf_1 (by decide) ?_
  refine lv_aload_n hx hb dL_lengthOf_2 rfl (lv_at hl 0 rfl) ?_
  refine lv_iload_n hx hb dL_lengthOf_3 rfl (lv_at hl 1 rfl) ?_
  obtain ⟨x4, hy4, hf⟩ := Option.bind_eq_some_iff.mp hf
  refine clX_i (As := [.int p1]) (rest := [.int 0, .ref oa]) (fun (u : Int32) => u) (fun (u : Int32) => wG cI ad size rc g fs st ln su rr cr bc bl td fi fa tk gr se sr) (fun (u : Nat) => u) (fun (u : Nat) => wG cI ad size rc g fs st ln su rr cr bc bl td fi fa tk gr se sr) (fun (u : Int32) => wGL cI cJ ad oa size rc g fs st ln su rr cr bc bl td fi fa tk gr se sr ou) (fun (u : Nat) => wGL cI cJ ad oa size rc g fs st ln su rr cr bc bl td fi fa tk gr se sr ou) ⟨hx, hb, hml, hown, hts⟩ (K_X3_lengthOf l hst D cI cZ ad H.size size rc g fs st ln su rr cr bc bl td fi fa tk gr se sr p1 _ hy4) (cwV 1 hts gL_lengthOf_X3_lengthOf rfl rfl rfl (by decide +kernel) ⟨Nat.le_of_ble_eq_true rfl, Nat.le_of_ble_eq_true rfl⟩) hK hXS hP hD hS hA hl.1 [0, 1, 2, 3, 4, 5, 6, 7, 8, 9, 10, 11, 12, 13, 14, 15, 16] (by decide) rfl (fun _ => rfl) (fun _ => rfl) (fun _ => rfl) (fun _ => rfl) 3 16 rfl rfl rfl rfl rfl (Nat.le_of_ble_eq_true rfl) dL_lengthOf_4 ⟨Nat.le_of_ble_eq_true rfl, Nat.le_of_ble_eq_true rfl⟩ (fun z4 hz E ce q9 H locs hE hP hD hS hq hv hc => ?_) (fun y4 hz H locs hP hD hS => ?_)
  · rw [hz] at hf
    have hf := sm_r hf
    rcases Decidable.em (z4 = 3) with c_3 | c_3
    · have hf := ite_t c_3 hf
      have hE : E = eB := by rw [hE, c_3]; rfl
      subst hE
      refine vx_catch (own := RL) (name := eB) hown [] ⟨0, 9, 12, 19⟩ [] htab (fun z hz => nomatch hz) rfl (by decide) (hts (.classLink RL 19 eB) (by decide +kernel)) (va_Nw.use rfl (hXS.2.2.2 (.castable eB eB) (by decide +kernel))) hq hv hc ?_
      refine lv_astore_n (x := q9) (lv' := [(3, .ref q9), (0, .ref (ad 16)), (1, .int p1), (2, .ref oa)]) hx hb dL_lengthOf_12 rfl hl (by decide) rfl (fun ls hl => ?_)
      refine lv_iconst (v := 1) hx hb dL_lengthOf_13 (by decide) ?_
      cases hf
      exact hR _ _ _ _ _ _ _ _ rfl rfl hP hD hS (Nat.le_of_ble_eq_true rfl) (Nat.le_of_ble_eq_true rfl) dL_lengthOf_14
    have hf := ite_f c_3 hf
    exact nomatch hf
  · rw [hz] at hf
    have hf := sm_l hf
    refine lv_i2l (v := (y4 : Int32).toInt64) hx hb dL_lengthOf_7 rfl ?_
    refine va_last hx hb hKJ hP hD hS 17 0 rfl rfl (show inR 0 1 from by decide) dL_lengthOf_8 (fun H locs hP hD hS => ?_)
    have hP : va_P D vwCl (wGL cI cJ ad oa size rc g fs st ln su rr cr bc bl td fi fa tk gr se sr (vp_updL ou ((0 : Int32)).toNatClampNeg ((y4 : Int32).toInt64))) H := hP
    have hD : va_D A (wGL cI cJ ad oa size rc g fs st ln su rr cr bc bl td fi fa tk gr se sr (vp_updL ou ((0 : Int32)).toNatClampNeg ((y4 : Int32).toInt64))) := hD
    refine lv_goto (tgt := 15) hx hb dL_lengthOf_9 (by decide) ?_
    refine lv_iconst (v := 0) hx hb dL_lengthOf_15 (by decide) ?_
    cases hf
    exact hR _ _ _ _ _ _ _ _ rfl rfl hP hD hS (Nat.le_of_ble_eq_true rfl) (Nat.le_of_ble_eq_true rfl) dL_lengthOf_16
def f_L_sumOf (rc : Int32) (su : Nat → Int32) (ou : Nat → Int64) (p1 : Int32) : Option (Int32 × (Nat → Int64)) :=
  (f_X3_sumOf rc su p1).bind fun x4 => sm x4 (fun y4 => some (0, (vp_updL ou ((0 : Int32)).toNatClampNeg ((y4 : Int32).toInt64)))) (fun z4 => (if z4 = 3 then some (1, ou) else none))
def rm_L_sumOf : Room := { frames := 10, cells := 1, slots := 6, locals := 242 }
set_option maxRecDepth 100000 in
set_option maxHeartbeats 8000000 in
theorem K_L_sumOf (l : Launch) (hst : l.stackTraces = false) (D : va_G) (cI cZ cJ : ClassId) (ad : Nat → Nat) (oa : Nat) (sz : Nat) (size rc : Int32) (g fs st ln su rr cr : Nat → Int32) (bc : Int32) (bl td fi fa : Nat → Int32) (tk gr : Int32) (se sr : Nat → Int32) (ou : Nat → Int64) (p1 : Int32) (r : (Int32 × (Nat → Int64))) (hf : f_L_sumOf rc su ou p1 = some r) : Met l yL_sumOf wsL_sumOf rm_L_sumOf (PL D cI cZ cJ sz [.ref (ad 16), .int p1, .ref oa] (wGL cI cJ ad oa size rc g fs st ln su rr cr bc bl td fi fa tk gr se sr ou)) (QI D cI cZ sz (wGL cI cJ ad oa size rc g fs st ln su rr cr bc bl td fi fa tk gr se sr ou) r.1 (wGL cI cJ ad oa size rc g fs st ln su rr cr bc bl td fi fa tk gr se sr r.2)) 1 6 (va_A (wGL cI cJ ad oa size rc g fs st ln su rr cr bc bl td fi fa tk gr se sr ou) sz) := by
  refine mkl_i (cc := cL_sumOf) (maxL := 4) (lv0 := [(0, .ref (ad 16)), (1, .int p1), (2, .ref oa)]) (hh := [(0, 9, 12, 19)]) rfl (by decide) rfl (Nat.le_of_ble_eq_true rfl) rfl ?_
  intro p e s m args below meth c ls A Q H hx hb hml hown hts hK hXS hKJ hNC hP hD hA hS hl htab hR
  rw [f_L_sumOf] at hf
  refine lv_aload_n hx hb dL_sumOf_0 rfl (lv_at hl 2 rfl) ?_
  refine lv_iconst (v := 0) hx hb dL_sumOf_1 (by decide) ?_
  refine lv_aload_n hx hb dL_sumOf_2 rfl (lv_at hl 0 rfl) ?_
  refine lv_iload_n hx hb dL_sumOf_3 rfl (lv_at hl 1 rfl) ?_
  obtain ⟨x4, hy4, hf⟩ := Option.bind_eq_some_iff.mp hf
  refine clX_i (As := [.int p1]) (rest := [.int 0, .ref oa]) (fun (u : Int32) => u) (fun (u : Int32) => wG cI ad size rc g fs st ln su rr cr bc bl td fi fa tk gr se sr) (fun (u : Nat) => u) (fun (u : Nat) => wG cI ad size rc g fs st ln su rr cr bc bl td fi fa tk gr se sr) (fun (u : Int32) => wGL cI cJ ad oa size rc g fs st ln su rr cr bc bl td fi fa tk gr se sr ou) (fun (u : Nat) => wGL cI cJ ad oa size rc g fs st ln su rr cr bc bl td fi fa tk gr se sr ou) ⟨hx, hb, hml, hown, hts⟩ (K_X3_sumOf l hst D cI cZ ad H.size size rc g fs st ln su rr cr bc bl td fi fa tk gr se sr p1 _ hy4) (cwV 1 hts gL_sumOf_X3_sumOf rfl rfl rfl (by decide +kernel) ⟨Nat.le_of_ble_eq_true rfl, Nat.le_of_ble_eq_true rfl⟩) hK hXS hP hD hS hA hl.1 [0, 1, 2, 3, 4, 5, 6, 7, 8, 9, 10, 11, 12, 13, 14, 15, 16] (by decide) rfl (fun _ => rfl) (fun _ => rfl) (fun _ => rfl) (fun _ => rfl) 3 16 rfl rfl rfl rfl rfl (Nat.le_of_ble_eq_true rfl) dL_sumOf_4 ⟨Nat.le_of_ble_eq_true rfl, Nat.le_of_ble_eq_true rfl⟩ (fun z4 hz E ce q9 H locs hE hP hD hS hq hv hc => ?_) (fun y4 hz H locs hP hD hS => ?_)
  · rw [hz] at hf
    have hf := sm_r hf
    rcases Decidable.em (z4 = 3) with c_3 | c_3
    · have hf := ite_t c_3 hf
      have hE : E = eB := by rw [hE, c_3]; rfl
      subst hE
      refine vx_catch (own := RL) (name := eB) hown [] ⟨0, 9, 12, 19⟩ [] htab (fun z hz => nomatch hz) rfl (by decide) (hts (.classLink RL 19 eB) (by decide +kernel)) (va_Nw.use rfl (hXS.2.2.2 (.castable eB eB) (by decide +kernel))) hq hv hc ?_
      refine lv_astore_n (x := q9) (lv' := [(3, .ref q9), (0, .ref (ad 16)), (1, .int p1), (2, .ref oa)]) hx hb dL_sumOf_12 rfl hl (by decide) rfl (fun ls hl => ?_)
      refine lv_iconst (v := 1) hx hb dL_sumOf_13 (by decide) ?_
      cases hf
      exact hR _ _ _ _ _ _ _ _ rfl rfl hP hD hS (Nat.le_of_ble_eq_true rfl) (Nat.le_of_ble_eq_true rfl) dL_sumOf_14
    have hf := ite_f c_3 hf
    exact nomatch hf
  · rw [hz] at hf
    have hf := sm_l hf
    refine lv_i2l (v := (y4 : Int32).toInt64) hx hb dL_sumOf_7 rfl ?_
    refine va_last hx hb hKJ hP hD hS 17 0 rfl rfl (show inR 0 1 from by decide) dL_sumOf_8 (fun H locs hP hD hS => ?_)
    have hP : va_P D vwCl (wGL cI cJ ad oa size rc g fs st ln su rr cr bc bl td fi fa tk gr se sr (vp_updL ou ((0 : Int32)).toNatClampNeg ((y4 : Int32).toInt64))) H := hP
    have hD : va_D A (wGL cI cJ ad oa size rc g fs st ln su rr cr bc bl td fi fa tk gr se sr (vp_updL ou ((0 : Int32)).toNatClampNeg ((y4 : Int32).toInt64))) := hD
    refine lv_goto (tgt := 15) hx hb dL_sumOf_9 (by decide) ?_
    refine lv_iconst (v := 0) hx hb dL_sumOf_15 (by decide) ?_
    cases hf
    exact hR _ _ _ _ _ _ _ _ rfl rfl hP hD hS (Nat.le_of_ble_eq_true rfl) (Nat.le_of_ble_eq_true rfl) dL_sumOf_16
def f_L_digit (size : Int32) (g : Nat → Int32) (ou : Nat → Int64) (p1 : Int32) : Option (Int32 × (Nat → Int64)) :=
  (f_X3_digit size g p1).bind fun x4 => sm x4 (fun y4 => some (0, (vp_updL ou ((0 : Int32)).toNatClampNeg ((y4 : Int32).toInt64)))) (fun z4 => (if z4 = 3 then some (1, ou) else none))
def rm_L_digit : Room := { frames := 10, cells := 1, slots := 6, locals := 242 }
set_option maxRecDepth 100000 in
set_option maxHeartbeats 8000000 in
theorem K_L_digit (l : Launch) (hst : l.stackTraces = false) (D : va_G) (cI cZ cJ : ClassId) (ad : Nat → Nat) (oa : Nat) (sz : Nat) (size rc : Int32) (g fs st ln su rr cr : Nat → Int32) (bc : Int32) (bl td fi fa : Nat → Int32) (tk gr : Int32) (se sr : Nat → Int32) (ou : Nat → Int64) (p1 : Int32) (r : (Int32 × (Nat → Int64))) (hf : f_L_digit size g ou p1 = some r) : Met l yL_digit wsL_digit rm_L_digit (PL D cI cZ cJ sz [.ref (ad 16), .int p1, .ref oa] (wGL cI cJ ad oa size rc g fs st ln su rr cr bc bl td fi fa tk gr se sr ou)) (QI D cI cZ sz (wGL cI cJ ad oa size rc g fs st ln su rr cr bc bl td fi fa tk gr se sr ou) r.1 (wGL cI cJ ad oa size rc g fs st ln su rr cr bc bl td fi fa tk gr se sr r.2)) 1 6 (va_A (wGL cI cJ ad oa size rc g fs st ln su rr cr bc bl td fi fa tk gr se sr ou) sz) := by
  refine mkl_i (cc := cL_digit) (maxL := 4) (lv0 := [(0, .ref (ad 16)), (1, .int p1), (2, .ref oa)]) (hh := [(0, 9, 12, 19)]) rfl (by decide) rfl (Nat.le_of_ble_eq_true rfl) rfl ?_
  intro p e s m args below meth c ls A Q H hx hb hml hown hts hK hXS hKJ hNC hP hD hA hS hl htab hR
  rw [f_L_digit] at hf
  refine lv_aload_n hx hb dL_digit_0 rfl (lv_at hl 2 rfl) ?_
  refine lv_iconst (v := 0) hx hb dL_digit_1 (by decide) ?_
  refine lv_aload_n hx hb dL_digit_2 rfl (lv_at hl 0 rfl) ?_
  refine lv_iload_n hx hb dL_digit_3 rfl (lv_at hl 1 rfl) ?_
  obtain ⟨x4, hy4, hf⟩ := Option.bind_eq_some_iff.mp hf
  refine clX_i (As := [.int p1]) (rest := [.int 0, .ref oa]) (fun (u : Int32) => u) (fun (u : Int32) => wG cI ad size rc g fs st ln su rr cr bc bl td fi fa tk gr se sr) (fun (u : Nat) => u) (fun (u : Nat) => wG cI ad size rc g fs st ln su rr cr bc bl td fi fa tk gr se sr) (fun (u : Int32) => wGL cI cJ ad oa size rc g fs st ln su rr cr bc bl td fi fa tk gr se sr ou) (fun (u : Nat) => wGL cI cJ ad oa size rc g fs st ln su rr cr bc bl td fi fa tk gr se sr ou) ⟨hx, hb, hml, hown, hts⟩ (K_X3_digit l hst D cI cZ ad H.size size rc g fs st ln su rr cr bc bl td fi fa tk gr se sr p1 _ hy4) (cwV 1 hts gL_digit_X3_digit rfl rfl rfl (by decide +kernel) ⟨Nat.le_of_ble_eq_true rfl, Nat.le_of_ble_eq_true rfl⟩) hK hXS hP hD hS hA hl.1 [0, 1, 2, 3, 4, 5, 6, 7, 8, 9, 10, 11, 12, 13, 14, 15, 16] (by decide) rfl (fun _ => rfl) (fun _ => rfl) (fun _ => rfl) (fun _ => rfl) 3 16 rfl rfl rfl rfl rfl (Nat.le_of_ble_eq_true rfl) dL_digit_4 ⟨Nat.le_of_ble_eq_true rfl, Nat.le_of_ble_eq_true rfl⟩ (fun z4 hz E ce q9 H locs hE hP hD hS hq hv hc => ?_) (fun y4 hz H locs hP hD hS => ?_)
  · rw [hz] at hf
    have hf := sm_r hf
    rcases Decidable.em (z4 = 3) with c_3 | c_3
    · have hf := ite_t c_3 hf
      have hE : E = eB := by rw [hE, c_3]; rfl
      subst hE
      refine vx_catch (own := RL) (name := eB) hown [] ⟨0, 9, 12, 19⟩ [] htab (fun z hz => nomatch hz) rfl (by decide) (hts (.classLink RL 19 eB) (by decide +kernel)) (va_Nw.use rfl (hXS.2.2.2 (.castable eB eB) (by decide +kernel))) hq hv hc ?_
      refine lv_astore_n (x := q9) (lv' := [(3, .ref q9), (0, .ref (ad 16)), (1, .int p1), (2, .ref oa)]) hx hb dL_digit_12 rfl hl (by decide) rfl (fun ls hl => ?_)
      refine lv_iconst (v := 1) hx hb dL_digit_13 (by decide) ?_
      cases hf
      exact hR _ _ _ _ _ _ _ _ rfl rfl hP hD hS (Nat.le_of_ble_eq_true rfl) (Nat.le_of_ble_eq_true rfl) dL_digit_14
    have hf := ite_f c_3 hf
    exact nomatch hf
  · rw [hz] at hf
    have hf := sm_l hf
    refine lv_i2l (v := (y4 : Int32).toInt64) hx hb dL_digit_7 rfl ?_
    refine va_last hx hb hKJ hP hD hS 17 0 rfl rfl (show inR 0 1 from by decide) dL_digit_8 (fun H locs hP hD hS => ?_)
    have hP : va_P D vwCl (wGL cI cJ ad oa size rc g fs st ln su rr cr bc bl td fi fa tk gr se sr (vp_updL ou ((0 : Int32)).toNatClampNeg ((y4 : Int32).toInt64))) H := hP
    have hD : va_D A (wGL cI cJ ad oa size rc g fs st ln su rr cr bc bl td fi fa tk gr se sr (vp_updL ou ((0 : Int32)).toNatClampNeg ((y4 : Int32).toInt64))) := hD
    refine lv_goto (tgt := 15) hx hb dL_digit_9 (by decide) ?_
    refine lv_iconst (v := 0) hx hb dL_digit_15 (by decide) ?_
    cases hf
    exact hR _ _ _ _ _ _ _ _ rfl rfl hP hD hS (Nat.le_of_ble_eq_true rfl) (Nat.le_of_ble_eq_true rfl) dL_digit_16
def f_L_answers (N : Nat) (size : Int32) (rc : Int32) (g : Nat → Int32) (fs : Nat → Int32) (st : Nat → Int32) (ln : Nat → Int32) (su : Nat → Int32) (rr : Nat → Int32) (cr : Nat → Int32) (bc : Int32) (bl : Nat → Int32) (td : Nat → Int32) (fi : Nat → Int32) (fa : Nat → Int32) (ou : Nat → Int64) (p1 : Int32) : Option (Int32 × Int32 × (Nat → Int32) × (Nat → Int32) × (Nat → Int32) × (Nat → Int32) × (Nat → Int64)) :=
  (f_X3_answers N size rc g fs st ln su rr cr bc bl td fi fa p1).bind fun x4 => sm x4 (fun y4 => some (0, y4.2.1, y4.2.2.1, y4.2.2.2.1, y4.2.2.2.2.1, y4.2.2.2.2.2, (vp_updL ou ((0 : Int32)).toNatClampNeg ((y4.1 : Int32).toInt64)))) (fun z4 => (if z4.1 = 1 then some (1, z4.2.1, z4.2.2.1, z4.2.2.2.1, z4.2.2.2.2.1, z4.2.2.2.2.2, ou) else none))
def rm_L_answers : Room := { frames := 9, cells := 1, slots := 6, locals := 221 }
set_option maxRecDepth 100000 in
set_option maxHeartbeats 8000000 in
theorem K_L_answers (l : Launch) (hst : l.stackTraces = false) (D : va_G) (cI cZ cJ : ClassId) (ad : Nat → Nat) (oa : Nat) (sz : Nat) (N : Nat) (size rc : Int32) (g fs st ln su rr cr : Nat → Int32) (bc : Int32) (bl td fi fa : Nat → Int32) (tk gr : Int32) (se sr : Nat → Int32) (ou : Nat → Int64) (p1 : Int32) (r : (Int32 × Int32 × (Nat → Int32) × (Nat → Int32) × (Nat → Int32) × (Nat → Int32) × (Nat → Int64))) (hf : f_L_answers N size rc g fs st ln su rr cr bc bl td fi fa ou p1 = some r) : Met l yL_answers wsL_answers rm_L_answers (PL D cI cZ cJ sz [.ref (ad 16), .int p1, .ref oa] (wGL cI cJ ad oa size rc g fs st ln su rr cr bc bl td fi fa tk gr se sr ou)) (QI D cI cZ sz (wGL cI cJ ad oa size rc g fs st ln su rr cr bc bl td fi fa tk gr se sr ou) r.1 (wGL cI cJ ad oa size rc g fs st ln su rr cr r.2.1 r.2.2.1 r.2.2.2.1 r.2.2.2.2.1 r.2.2.2.2.2.1 tk gr se sr r.2.2.2.2.2.2)) 1 6 (va_A (wGL cI cJ ad oa size rc g fs st ln su rr cr bc bl td fi fa tk gr se sr ou) sz) := by
  refine mkl_i (cc := cL_answers) (maxL := 4) (lv0 := [(0, .ref (ad 16)), (1, .int p1), (2, .ref oa)]) (hh := [(0, 9, 12, 13)]) rfl (by decide) rfl (Nat.le_of_ble_eq_true rfl) rfl ?_
  intro p e s m args below meth c ls A Q H hx hb hml hown hts hK hXS hKJ hNC hP hD hA hS hl htab hR
  rw [f_L_answers] at hf
  refine lv_aload_n hx hb dL_answers_0 rfl (lv_at hl 2 rfl) ?_
  refine lv_iconst (v := 0) hx hb dL_answers_1 (by decide) ?_
  refine lv_aload_n hx hb dL_answers_2 rfl (lv_at hl 0 rfl) ?_
  refine lv_iload_n hx hb dL_answers_3 rfl (lv_at hl 1 rfl) ?_
  obtain ⟨x4, hy4, hf⟩ := Option.bind_eq_some_iff.mp hf
  refine clX_i (As := [.int p1]) (rest := [.int 0, .ref oa]) (fun (u : Int32 × Int32 × (Nat → Int32) × (Nat → Int32) × (Nat → Int32) × (Nat → Int32)) => u.1) (fun (u : Int32 × Int32 × (Nat → Int32) × (Nat → Int32) × (Nat → Int32) × (Nat → Int32)) => wG cI ad size rc g fs st ln su rr cr u.2.1 u.2.2.1 u.2.2.2.1 u.2.2.2.2.1 u.2.2.2.2.2 tk gr se sr) (fun (u : Nat × Int32 × (Nat → Int32) × (Nat → Int32) × (Nat → Int32) × (Nat → Int32)) => u.1) (fun (u : Nat × Int32 × (Nat → Int32) × (Nat → Int32) × (Nat → Int32) × (Nat → Int32)) => wG cI ad size rc g fs st ln su rr cr u.2.1 u.2.2.1 u.2.2.2.1 u.2.2.2.2.1 u.2.2.2.2.2 tk gr se sr) (fun (u : Int32 × Int32 × (Nat → Int32) × (Nat → Int32) × (Nat → Int32) × (Nat → Int32)) => wGL cI cJ ad oa size rc g fs st ln su rr cr u.2.1 u.2.2.1 u.2.2.2.1 u.2.2.2.2.1 u.2.2.2.2.2 tk gr se sr ou) (fun (u : Nat × Int32 × (Nat → Int32) × (Nat → Int32) × (Nat → Int32) × (Nat → Int32)) => wGL cI cJ ad oa size rc g fs st ln su rr cr u.2.1 u.2.2.1 u.2.2.2.1 u.2.2.2.2.1 u.2.2.2.2.2 tk gr se sr ou) ⟨hx, hb, hml, hown, hts⟩ (K_X3_answers l hst D cI cZ ad H.size N size rc g fs st ln su rr cr bc bl td fi fa tk gr se sr p1 _ hy4) (cwV 1 hts gL_answers_X3_answers rfl rfl rfl (by decide +kernel) ⟨Nat.le_of_ble_eq_true rfl, Nat.le_of_ble_eq_true rfl⟩) hK hXS hP hD hS hA hl.1 [0, 1, 2, 3, 4, 5, 6, 7, 8, 9, 10, 11, 12, 13, 14, 15, 16] (by decide) rfl (fun _ => rfl) (fun _ => rfl) (fun _ => rfl) (fun _ => rfl) 3 16 rfl rfl rfl rfl rfl (Nat.le_of_ble_eq_true rfl) dL_answers_4 ⟨Nat.le_of_ble_eq_true rfl, Nat.le_of_ble_eq_true rfl⟩ (fun z4 hz E ce q9 H locs hE hP hD hS hq hv hc => ?_) (fun y4 hz H locs hP hD hS => ?_)
  · rw [hz] at hf
    have hf := sm_r hf
    rcases Decidable.em (z4.1 = 1) with c_1 | c_1
    · have hf := ite_t c_1 hf
      have hE : E = eA := by rw [hE, c_1]; rfl
      subst hE
      refine vx_catch (own := RL) (name := eA) hown [] ⟨0, 9, 12, 13⟩ [] htab (fun z hz => nomatch hz) rfl (by decide) (hts (.classLink RL 13 eA) (by decide +kernel)) (va_Nw.use rfl (hXS.2.2.2 (.castable eA eA) (by decide +kernel))) hq hv hc ?_
      refine lv_astore_n (x := q9) (lv' := [(3, .ref q9), (0, .ref (ad 16)), (1, .int p1), (2, .ref oa)]) hx hb dL_answers_12 rfl hl (by decide) rfl (fun ls hl => ?_)
      refine lv_iconst (v := 1) hx hb dL_answers_13 (by decide) ?_
      cases hf
      exact hR _ _ _ _ _ _ _ _ rfl rfl hP hD hS (Nat.le_of_ble_eq_true rfl) (Nat.le_of_ble_eq_true rfl) dL_answers_14
    have hf := ite_f c_1 hf
    exact nomatch hf
  · rw [hz] at hf
    have hf := sm_l hf
    refine lv_i2l (v := (y4.1 : Int32).toInt64) hx hb dL_answers_7 rfl ?_
    refine va_last hx hb hKJ hP hD hS 17 0 rfl rfl (show inR 0 1 from by decide) dL_answers_8 (fun H locs hP hD hS => ?_)
    have hP : va_P D vwCl (wGL cI cJ ad oa size rc g fs st ln su rr cr y4.2.1 y4.2.2.1 y4.2.2.2.1 y4.2.2.2.2.1 y4.2.2.2.2.2 tk gr se sr (vp_updL ou ((0 : Int32)).toNatClampNeg ((y4.1 : Int32).toInt64))) H := hP
    have hD : va_D A (wGL cI cJ ad oa size rc g fs st ln su rr cr y4.2.1 y4.2.2.1 y4.2.2.2.1 y4.2.2.2.2.1 y4.2.2.2.2.2 tk gr se sr (vp_updL ou ((0 : Int32)).toNatClampNeg ((y4.1 : Int32).toInt64))) := hD
    refine lv_goto (tgt := 15) hx hb dL_answers_9 (by decide) ?_
    refine lv_iconst (v := 0) hx hb dL_answers_15 (by decide) ?_
    cases hf
    exact hR _ _ _ _ _ _ _ _ rfl rfl hP hD hS (Nat.le_of_ble_eq_true rfl) (Nat.le_of_ble_eq_true rfl) dL_answers_16
def f_L_answersByAll (N : Nat) (size : Int32) (rc : Int32) (g : Nat → Int32) (fs : Nat → Int32) (st : Nat → Int32) (ln : Nat → Int32) (su : Nat → Int32) (bc : Int32) (bl : Nat → Int32) (td : Nat → Int32) (fi : Nat → Int32) (ou : Nat → Int64) : Option (Int32 × Int32 × (Nat → Int32) × (Nat → Int32) × (Nat → Int32) × (Nat → Int64)) :=
  (f_X3_answersByAll N size rc g fs st ln su bc bl td fi).bind fun x3 => sm x3 (fun y3 => some (0, y3.2.1, y3.2.2.1, y3.2.2.2.1, y3.2.2.2.2, (vp_updL ou ((0 : Int32)).toNatClampNeg ((y3.1 : Int32).toInt64)))) (fun z3 => (if z3.1 = 2 then some (1, z3.2.1, z3.2.2.1, z3.2.2.2.1, z3.2.2.2.2, ou) else none))
def rm_L_answersByAll : Room := { frames := 9, cells := 1, slots := 6, locals := 220 }
set_option maxRecDepth 100000 in
set_option maxHeartbeats 8000000 in
theorem K_L_answersByAll (l : Launch) (hst : l.stackTraces = false) (D : va_G) (cI cZ cJ : ClassId) (ad : Nat → Nat) (oa : Nat) (sz : Nat) (N : Nat) (size rc : Int32) (g fs st ln su rr cr : Nat → Int32) (bc : Int32) (bl td fi fa : Nat → Int32) (tk gr : Int32) (se sr : Nat → Int32) (ou : Nat → Int64) (r : (Int32 × Int32 × (Nat → Int32) × (Nat → Int32) × (Nat → Int32) × (Nat → Int64))) (hf : f_L_answersByAll N size rc g fs st ln su bc bl td fi ou = some r) : Met l yL_answersByAll wsL_answersByAll rm_L_answersByAll (PL D cI cZ cJ sz [.ref (ad 16), .ref oa] (wGL cI cJ ad oa size rc g fs st ln su rr cr bc bl td fi fa tk gr se sr ou)) (QI D cI cZ sz (wGL cI cJ ad oa size rc g fs st ln su rr cr bc bl td fi fa tk gr se sr ou) r.1 (wGL cI cJ ad oa size rc g fs st ln su rr cr r.2.1 r.2.2.1 r.2.2.2.1 r.2.2.2.2.1 fa tk gr se sr r.2.2.2.2.2)) 1 6 (va_A (wGL cI cJ ad oa size rc g fs st ln su rr cr bc bl td fi fa tk gr se sr ou) sz) := by
  refine mkl_i (cc := cL_answersByAll) (maxL := 3) (lv0 := [(0, .ref (ad 16)), (1, .ref oa)]) (hh := [(0, 8, 11, 29)]) rfl (by decide) rfl (Nat.le_of_ble_eq_true rfl) rfl ?_
  intro p e s m args below meth c ls A Q H hx hb hml hown hts hK hXS hKJ hNC hP hD hA hS hl htab hR
  rw [f_L_answersByAll] at hf
  refine lv_aload_n hx hb dL_answersByAll_0 rfl (lv_at hl 1 rfl) ?_
  refine lv_iconst (v := 0) hx hb dL_answersByAll_1 (by decide) ?_
  refine lv_aload_n hx hb dL_answersByAll_2 rfl (lv_at hl 0 rfl) ?_
  obtain ⟨x3, hy3, hf⟩ := Option.bind_eq_some_iff.mp hf
  refine clX_i (As := []) (rest := [.int 0, .ref oa]) (fun (u : Int32 × Int32 × (Nat → Int32) × (Nat → Int32) × (Nat → Int32)) => u.1) (fun (u : Int32 × Int32 × (Nat → Int32) × (Nat → Int32) × (Nat → Int32)) => wG cI ad size rc g fs st ln su rr cr u.2.1 u.2.2.1 u.2.2.2.1 u.2.2.2.2 fa tk gr se sr) (fun (u : Nat × Int32 × (Nat → Int32) × (Nat → Int32) × (Nat → Int32)) => u.1) (fun (u : Nat × Int32 × (Nat → Int32) × (Nat → Int32) × (Nat → Int32)) => wG cI ad size rc g fs st ln su rr cr u.2.1 u.2.2.1 u.2.2.2.1 u.2.2.2.2 fa tk gr se sr) (fun (u : Int32 × Int32 × (Nat → Int32) × (Nat → Int32) × (Nat → Int32)) => wGL cI cJ ad oa size rc g fs st ln su rr cr u.2.1 u.2.2.1 u.2.2.2.1 u.2.2.2.2 fa tk gr se sr ou) (fun (u : Nat × Int32 × (Nat → Int32) × (Nat → Int32) × (Nat → Int32)) => wGL cI cJ ad oa size rc g fs st ln su rr cr u.2.1 u.2.2.1 u.2.2.2.1 u.2.2.2.2 fa tk gr se sr ou) ⟨hx, hb, hml, hown, hts⟩ (K_X3_answersByAll l hst D cI cZ ad H.size N size rc g fs st ln su rr cr bc bl td fi fa tk gr se sr _ hy3) (cwV 0 hts gL_answersByAll_X3_answersByAll rfl rfl rfl (by decide +kernel) ⟨Nat.le_of_ble_eq_true rfl, Nat.le_of_ble_eq_true rfl⟩) hK hXS hP hD hS hA hl.1 [0, 1, 2, 3, 4, 5, 6, 7, 8, 9, 10, 11, 12, 13, 14, 15, 16] (by decide) rfl (fun _ => rfl) (fun _ => rfl) (fun _ => rfl) (fun _ => rfl) 3 16 rfl rfl rfl rfl rfl (Nat.le_of_ble_eq_true rfl) dL_answersByAll_3 ⟨Nat.le_of_ble_eq_true rfl, Nat.le_of_ble_eq_true rfl⟩ (fun z3 hz E ce q9 H locs hE hP hD hS hq hv hc => ?_) (fun y3 hz H locs hP hD hS => ?_)
  · rw [hz] at hf
    have hf := sm_r hf
    rcases Decidable.em (z3.1 = 2) with c_2 | c_2
    · have hf := ite_t c_2 hf
      have hE : E = eS := by rw [hE, c_2]; rfl
      subst hE
      refine vx_catch (own := RL) (name := eS) hown [] ⟨0, 8, 11, 29⟩ [] htab (fun z hz => nomatch hz) rfl (by decide) (hts (.classLink RL 29 eS) (by decide +kernel)) (va_Nw.use rfl (hXS.2.2.2 (.castable eS eS) (by decide +kernel))) hq hv hc ?_
      refine lv_astore_n (x := q9) (lv' := [(2, .ref q9), (0, .ref (ad 16)), (1, .ref oa)]) hx hb dL_answersByAll_11 rfl hl (by decide) rfl (fun ls hl => ?_)
      refine lv_iconst (v := 1) hx hb dL_answersByAll_12 (by decide) ?_
      cases hf
      exact hR _ _ _ _ _ _ _ _ rfl rfl hP hD hS (Nat.le_of_ble_eq_true rfl) (Nat.le_of_ble_eq_true rfl) dL_answersByAll_13
    have hf := ite_f c_2 hf
    exact nomatch hf
  · rw [hz] at hf
    have hf := sm_l hf
    refine lv_i2l (v := (y3.1 : Int32).toInt64) hx hb dL_answersByAll_6 rfl ?_
    refine va_last hx hb hKJ hP hD hS 17 0 rfl rfl (show inR 0 1 from by decide) dL_answersByAll_7 (fun H locs hP hD hS => ?_)
    have hP : va_P D vwCl (wGL cI cJ ad oa size rc g fs st ln su rr cr y3.2.1 y3.2.2.1 y3.2.2.2.1 y3.2.2.2.2 fa tk gr se sr (vp_updL ou ((0 : Int32)).toNatClampNeg ((y3.1 : Int32).toInt64))) H := hP
    have hD : va_D A (wGL cI cJ ad oa size rc g fs st ln su rr cr y3.2.1 y3.2.2.1 y3.2.2.2.1 y3.2.2.2.2 fa tk gr se sr (vp_updL ou ((0 : Int32)).toNatClampNeg ((y3.1 : Int32).toInt64))) := hD
    refine lv_goto (tgt := 14) hx hb dL_answersByAll_8 (by decide) ?_
    refine lv_iconst (v := 0) hx hb dL_answersByAll_14 (by decide) ?_
    cases hf
    exact hR _ _ _ _ _ _ _ _ rfl rfl hP hD hS (Nat.le_of_ble_eq_true rfl) (Nat.le_of_ble_eq_true rfl) dL_answersByAll_15
def f_L_mend (N : Nat) (size : Int32) (rc : Int32) (g : Nat → Int32) (fs : Nat → Int32) (st : Nat → Int32) (ln : Nat → Int32) (su : Nat → Int32) (rr : Nat → Int32) (cr : Nat → Int32) (bc : Int32) (bl : Nat → Int32) (td : Nat → Int32) (fi : Nat → Int32) (fa : Nat → Int32) (ou : Nat → Int64) : Option (Int32 × (Nat → Int32) × Int32 × (Nat → Int32) × (Nat → Int32) × (Nat → Int32) × (Nat → Int32) × (Nat → Int64)) :=
  (f_X3_mend N size rc g fs st ln su rr cr bc bl td fi fa).bind fun x3 => sm x3 (fun y3 => some (0, y3.2.1, y3.2.2.1, y3.2.2.2.1, y3.2.2.2.2.1, y3.2.2.2.2.2.1, y3.2.2.2.2.2.2, (vp_updL ou ((0 : Int32)).toNatClampNeg ((y3.1 : Int32).toInt64)))) (fun z3 => (if z3.1 = 2 then some (1, z3.2.1, z3.2.2.1, z3.2.2.2.1, z3.2.2.2.2.1, z3.2.2.2.2.2.1, z3.2.2.2.2.2.2, ou) else none))
def rm_L_mend : Room := { frames := 9, cells := 1, slots := 6, locals := 222 }
set_option maxRecDepth 100000 in
set_option maxHeartbeats 8000000 in
theorem K_L_mend (l : Launch) (hst : l.stackTraces = false) (D : va_G) (cI cZ cJ : ClassId) (ad : Nat → Nat) (oa : Nat) (sz : Nat) (N : Nat) (size rc : Int32) (g fs st ln su rr cr : Nat → Int32) (bc : Int32) (bl td fi fa : Nat → Int32) (tk gr : Int32) (se sr : Nat → Int32) (ou : Nat → Int64) (r : (Int32 × (Nat → Int32) × Int32 × (Nat → Int32) × (Nat → Int32) × (Nat → Int32) × (Nat → Int32) × (Nat → Int64))) (hf : f_L_mend N size rc g fs st ln su rr cr bc bl td fi fa ou = some r) : Met l yL_mend wsL_mend rm_L_mend (PL D cI cZ cJ sz [.ref (ad 16), .ref oa] (wGL cI cJ ad oa size rc g fs st ln su rr cr bc bl td fi fa tk gr se sr ou)) (QI D cI cZ sz (wGL cI cJ ad oa size rc g fs st ln su rr cr bc bl td fi fa tk gr se sr ou) r.1 (wGL cI cJ ad oa size rc r.2.1 fs st ln su rr cr r.2.2.1 r.2.2.2.1 r.2.2.2.2.1 r.2.2.2.2.2.1 r.2.2.2.2.2.2.1 tk gr se sr r.2.2.2.2.2.2.2)) 1 6 (va_A (wGL cI cJ ad oa size rc g fs st ln su rr cr bc bl td fi fa tk gr se sr ou) sz) := by
  refine mkl_i (cc := cL_mend) (maxL := 3) (lv0 := [(0, .ref (ad 16)), (1, .ref oa)]) (hh := [(0, 8, 11, 29)]) rfl (by decide) rfl (Nat.le_of_ble_eq_true rfl) rfl ?_
  intro p e s m args below meth c ls A Q H hx hb hml hown hts hK hXS hKJ hNC hP hD hA hS hl htab hR
  rw [f_L_mend] at hf
  refine lv_aload_n hx hb dL_mend_0 rfl (lv_at hl 1 rfl) ?_
  refine lv_iconst (v := 0) hx hb dL_mend_1 (by decide) ?_
  refine lv_aload_n hx hb dL_mend_2 rfl (lv_at hl 0 rfl) ?_
  obtain ⟨x3, hy3, hf⟩ := Option.bind_eq_some_iff.mp hf
  refine clX_i (As := []) (rest := [.int 0, .ref oa]) (fun (u : Int32 × (Nat → Int32) × Int32 × (Nat → Int32) × (Nat → Int32) × (Nat → Int32) × (Nat → Int32)) => u.1) (fun (u : Int32 × (Nat → Int32) × Int32 × (Nat → Int32) × (Nat → Int32) × (Nat → Int32) × (Nat → Int32)) => wG cI ad size rc u.2.1 fs st ln su rr cr u.2.2.1 u.2.2.2.1 u.2.2.2.2.1 u.2.2.2.2.2.1 u.2.2.2.2.2.2 tk gr se sr) (fun (u : Nat × (Nat → Int32) × Int32 × (Nat → Int32) × (Nat → Int32) × (Nat → Int32) × (Nat → Int32)) => u.1) (fun (u : Nat × (Nat → Int32) × Int32 × (Nat → Int32) × (Nat → Int32) × (Nat → Int32) × (Nat → Int32)) => wG cI ad size rc u.2.1 fs st ln su rr cr u.2.2.1 u.2.2.2.1 u.2.2.2.2.1 u.2.2.2.2.2.1 u.2.2.2.2.2.2 tk gr se sr) (fun (u : Int32 × (Nat → Int32) × Int32 × (Nat → Int32) × (Nat → Int32) × (Nat → Int32) × (Nat → Int32)) => wGL cI cJ ad oa size rc u.2.1 fs st ln su rr cr u.2.2.1 u.2.2.2.1 u.2.2.2.2.1 u.2.2.2.2.2.1 u.2.2.2.2.2.2 tk gr se sr ou) (fun (u : Nat × (Nat → Int32) × Int32 × (Nat → Int32) × (Nat → Int32) × (Nat → Int32) × (Nat → Int32)) => wGL cI cJ ad oa size rc u.2.1 fs st ln su rr cr u.2.2.1 u.2.2.2.1 u.2.2.2.2.1 u.2.2.2.2.2.1 u.2.2.2.2.2.2 tk gr se sr ou) ⟨hx, hb, hml, hown, hts⟩ (K_X3_mend l hst D cI cZ ad H.size N size rc g fs st ln su rr cr bc bl td fi fa tk gr se sr _ hy3) (cwV 0 hts gL_mend_X3_mend rfl rfl rfl (by decide +kernel) ⟨Nat.le_of_ble_eq_true rfl, Nat.le_of_ble_eq_true rfl⟩) hK hXS hP hD hS hA hl.1 [0, 1, 2, 3, 4, 5, 6, 7, 8, 9, 10, 11, 12, 13, 14, 15, 16] (by decide) rfl (fun _ => rfl) (fun _ => rfl) (fun _ => rfl) (fun _ => rfl) 3 16 rfl rfl rfl rfl rfl (Nat.le_of_ble_eq_true rfl) dL_mend_3 ⟨Nat.le_of_ble_eq_true rfl, Nat.le_of_ble_eq_true rfl⟩ (fun z3 hz E ce q9 H locs hE hP hD hS hq hv hc => ?_) (fun y3 hz H locs hP hD hS => ?_)
  · rw [hz] at hf
    have hf := sm_r hf
    rcases Decidable.em (z3.1 = 2) with c_2 | c_2
    · have hf := ite_t c_2 hf
      have hE : E = eS := by rw [hE, c_2]; rfl
      subst hE
      refine vx_catch (own := RL) (name := eS) hown [] ⟨0, 8, 11, 29⟩ [] htab (fun z hz => nomatch hz) rfl (by decide) (hts (.classLink RL 29 eS) (by decide +kernel)) (va_Nw.use rfl (hXS.2.2.2 (.castable eS eS) (by decide +kernel))) hq hv hc ?_
      refine lv_astore_n (x := q9) (lv' := [(2, .ref q9), (0, .ref (ad 16)), (1, .ref oa)]) hx hb dL_mend_11 rfl hl (by decide) rfl (fun ls hl => ?_)
      refine lv_iconst (v := 1) hx hb dL_mend_12 (by decide) ?_
      cases hf
      exact hR _ _ _ _ _ _ _ _ rfl rfl hP hD hS (Nat.le_of_ble_eq_true rfl) (Nat.le_of_ble_eq_true rfl) dL_mend_13
    have hf := ite_f c_2 hf
    exact nomatch hf
  · rw [hz] at hf
    have hf := sm_l hf
    refine lv_i2l (v := (y3.1 : Int32).toInt64) hx hb dL_mend_6 rfl ?_
    refine va_last hx hb hKJ hP hD hS 17 0 rfl rfl (show inR 0 1 from by decide) dL_mend_7 (fun H locs hP hD hS => ?_)
    have hP : va_P D vwCl (wGL cI cJ ad oa size rc y3.2.1 fs st ln su rr cr y3.2.2.1 y3.2.2.2.1 y3.2.2.2.2.1 y3.2.2.2.2.2.1 y3.2.2.2.2.2.2 tk gr se sr (vp_updL ou ((0 : Int32)).toNatClampNeg ((y3.1 : Int32).toInt64))) H := hP
    have hD : va_D A (wGL cI cJ ad oa size rc y3.2.1 fs st ln su rr cr y3.2.2.1 y3.2.2.2.1 y3.2.2.2.2.1 y3.2.2.2.2.2.1 y3.2.2.2.2.2.2 tk gr se sr (vp_updL ou ((0 : Int32)).toNatClampNeg ((y3.1 : Int32).toInt64))) := hD
    refine lv_goto (tgt := 14) hx hb dL_mend_8 (by decide) ?_
    refine lv_iconst (v := 0) hx hb dL_mend_14 (by decide) ?_
    cases hf
    exact hR _ _ _ _ _ _ _ _ rfl rfl hP hD hS (Nat.le_of_ble_eq_true rfl) (Nat.le_of_ble_eq_true rfl) dL_mend_15
def f_L_candidates (N : Nat) (size : Int32) (rc : Int32) (g : Nat → Int32) (fs : Nat → Int32) (st : Nat → Int32) (ln : Nat → Int32) (su : Nat → Int32) (tk : Int32) (gr : Int32) (se : Nat → Int32) (sr : Nat → Int32) (ou : Nat → Int64) (p1 : Int32) (p2 : Int32) : Option (Int32 × Int32 × Int32 × (Nat → Int32) × (Nat → Int32) × (Nat → Int64)) :=
  (f_X3_candidates N size rc g fs st ln su tk gr se sr p1 p2).bind fun x5 => sm x5 (fun y5 => some (0, y5.2.1, y5.2.2.1, y5.2.2.2.1, y5.2.2.2.2, (vp_updL ou ((0 : Int32)).toNatClampNeg ((y5.1 : Int32).toInt64)))) (fun z5 => (if z5.1 = 3 then some (1, z5.2.1, z5.2.2.1, z5.2.2.2.1, z5.2.2.2.2, ou) else if z5.1 = 1 then some (2, z5.2.1, z5.2.2.1, z5.2.2.2.1, z5.2.2.2.2, ou) else none))
def rm_L_candidates : Room := { frames := 11, cells := 2, slots := 12, locals := 600 }
set_option maxRecDepth 100000 in
set_option maxHeartbeats 8000000 in
theorem K_L_candidates (l : Launch) (hst : l.stackTraces = false) (D : va_G) (cI cZ cJ : ClassId) (ad : Nat → Nat) (oa : Nat) (sz : Nat) (N : Nat) (size rc : Int32) (g fs st ln su rr cr : Nat → Int32) (bc : Int32) (bl td fi fa : Nat → Int32) (tk gr : Int32) (se sr : Nat → Int32) (ou : Nat → Int64) (p1 : Int32) (p2 : Int32) (r : (Int32 × Int32 × Int32 × (Nat → Int32) × (Nat → Int32) × (Nat → Int64))) (hf : f_L_candidates N size rc g fs st ln su tk gr se sr ou p1 p2 = some r) : Met l yL_candidates wsL_candidates rm_L_candidates (PL D cI cZ cJ sz [.ref (ad 16), .int p1, .int p2, .ref oa] (wGL cI cJ ad oa size rc g fs st ln su rr cr bc bl td fi fa tk gr se sr ou)) (QI D cI cZ sz (wGL cI cJ ad oa size rc g fs st ln su rr cr bc bl td fi fa tk gr se sr ou) r.1 (wGL cI cJ ad oa size rc g fs st ln su rr cr bc bl td fi fa r.2.1 r.2.2.1 r.2.2.2.1 r.2.2.2.2.1 r.2.2.2.2.2)) 2 12 (va_A (wGL cI cJ ad oa size rc g fs st ln su rr cr bc bl td fi fa tk gr se sr ou) sz) := by
  refine mkl_i (cc := cL_candidates) (maxL := 5) (lv0 := [(0, .ref (ad 16)), (1, .int p1), (2, .int p2), (3, .ref oa)]) (hh := [(0, 10, 13, 19), (0, 10, 17, 13)]) rfl (by decide) rfl (Nat.le_of_ble_eq_true rfl) rfl ?_
  intro p e s m args below meth c ls A Q H hx hb hml hown hts hK hXS hKJ hNC hP hD hA hS hl htab hR
  rw [f_L_candidates] at hf
  refine lv_aload_n hx hb dL_candidates_0 rfl (lv_at hl 3 rfl) ?_
  refine lv_iconst (v := 0) hx hb dL_candidates_1 (by decide) ?_
  refine lv_aload_n hx hb dL_candidates_2 rfl (lv_at hl 0 rfl) ?_
  refine lv_iload_n hx hb dL_candidates_3 rfl (lv_at hl 1 rfl) ?_
  refine lv_iload_n hx hb dL_candidates_4 rfl (lv_at hl 2 rfl) ?_
  obtain ⟨x5, hy5, hf⟩ := Option.bind_eq_some_iff.mp hf
  refine clX_i (As := [.int p1, .int p2]) (rest := [.int 0, .ref oa]) (fun (u : Int32 × Int32 × Int32 × (Nat → Int32) × (Nat → Int32)) => u.1) (fun (u : Int32 × Int32 × Int32 × (Nat → Int32) × (Nat → Int32)) => wG cI ad size rc g fs st ln su rr cr bc bl td fi fa u.2.1 u.2.2.1 u.2.2.2.1 u.2.2.2.2) (fun (u : Nat × Int32 × Int32 × (Nat → Int32) × (Nat → Int32)) => u.1) (fun (u : Nat × Int32 × Int32 × (Nat → Int32) × (Nat → Int32)) => wG cI ad size rc g fs st ln su rr cr bc bl td fi fa u.2.1 u.2.2.1 u.2.2.2.1 u.2.2.2.2) (fun (u : Int32 × Int32 × Int32 × (Nat → Int32) × (Nat → Int32)) => wGL cI cJ ad oa size rc g fs st ln su rr cr bc bl td fi fa u.2.1 u.2.2.1 u.2.2.2.1 u.2.2.2.2 ou) (fun (u : Nat × Int32 × Int32 × (Nat → Int32) × (Nat → Int32)) => wGL cI cJ ad oa size rc g fs st ln su rr cr bc bl td fi fa u.2.1 u.2.2.1 u.2.2.2.1 u.2.2.2.2 ou) ⟨hx, hb, hml, hown, hts⟩ (K_X3_candidates l hst D cI cZ ad H.size N size rc g fs st ln su rr cr bc bl td fi fa tk gr se sr p1 p2 _ hy5) (cwV 2 hts gL_candidates_X3_candidates rfl rfl rfl (by decide +kernel) ⟨Nat.le_of_ble_eq_true rfl, Nat.le_of_ble_eq_true rfl⟩) hK hXS hP hD hS hA hl.1 [0, 1, 2, 3, 4, 5, 6, 7, 8, 9, 10, 11, 12, 13, 14, 15, 16] (by decide) rfl (fun _ => rfl) (fun _ => rfl) (fun _ => rfl) (fun _ => rfl) 3 16 rfl rfl rfl rfl rfl (Nat.le_of_ble_eq_true rfl) dL_candidates_5 ⟨Nat.le_of_ble_eq_true rfl, Nat.le_of_ble_eq_true rfl⟩ (fun z5 hz E ce q9 H locs hE hP hD hS hq hv hc => ?_) (fun y5 hz H locs hP hD hS => ?_)
  · rw [hz] at hf
    have hf := sm_r hf
    rcases Decidable.em (z5.1 = 3) with c_3 | c_3
    · have hf := ite_t c_3 hf
      have hE : E = eB := by rw [hE, c_3]; rfl
      subst hE
      refine vx_catch (own := RL) (name := eB) hown [] ⟨0, 10, 13, 19⟩ [⟨0, 10, 17, 13⟩] htab (fun z hz => nomatch hz) rfl (by decide) (hts (.classLink RL 19 eB) (by decide +kernel)) (va_Nw.use rfl (hXS.2.2.2 (.castable eB eB) (by decide +kernel))) hq hv hc ?_
      refine lv_astore (x := q9) (lv' := [(4, .ref q9), (0, .ref (ad 16)), (1, .int p1), (2, .int p2), (3, .ref oa)]) hx hb dL_candidates_13 hl (by decide) rfl (fun ls hl => ?_)
      refine lv_iconst (v := 1) hx hb dL_candidates_15 (by decide) ?_
      cases hf
      exact hR _ _ _ _ _ _ _ _ rfl rfl hP hD hS (Nat.le_of_ble_eq_true rfl) (Nat.le_of_ble_eq_true rfl) dL_candidates_16
    have hf := ite_f c_3 hf
    rcases Decidable.em (z5.1 = 1) with c_1 | c_1
    · have hf := ite_t c_1 hf
      have hE : E = eA := by rw [hE, c_1]; rfl
      subst hE
      refine vx_catch (own := RL) (name := eA) hown [⟨0, 10, 13, 19⟩] ⟨0, 10, 17, 13⟩ [] htab (fun z hz => by rw [List.mem_singleton] at hz; subst hz; exact Or.inr ⟨by decide, eB, hts (.classLink RL 19 eB) (by decide +kernel), hNC.1⟩) rfl (by decide) (hts (.classLink RL 13 eA) (by decide +kernel)) (va_Nw.use rfl (hXS.2.2.2 (.castable eA eA) (by decide +kernel))) hq hv hc ?_
      refine lv_astore (x := q9) (lv' := [(4, .ref q9), (0, .ref (ad 16)), (1, .int p1), (2, .int p2), (3, .ref oa)]) hx hb dL_candidates_17 hl (by decide) rfl (fun ls hl => ?_)
      refine lv_iconst (v := 2) hx hb dL_candidates_19 (by decide) ?_
      cases hf
      exact hR _ _ _ _ _ _ _ _ rfl rfl hP hD hS (Nat.le_of_ble_eq_true rfl) (Nat.le_of_ble_eq_true rfl) dL_candidates_20
    have hf := ite_f c_1 hf
    exact nomatch hf
  · rw [hz] at hf
    have hf := sm_l hf
    refine lv_i2l (v := (y5.1 : Int32).toInt64) hx hb dL_candidates_8 rfl ?_
    refine va_last hx hb hKJ hP hD hS 17 0 rfl rfl (show inR 0 1 from by decide) dL_candidates_9 (fun H locs hP hD hS => ?_)
    have hP : va_P D vwCl (wGL cI cJ ad oa size rc g fs st ln su rr cr bc bl td fi fa y5.2.1 y5.2.2.1 y5.2.2.2.1 y5.2.2.2.2 (vp_updL ou ((0 : Int32)).toNatClampNeg ((y5.1 : Int32).toInt64))) H := hP
    have hD : va_D A (wGL cI cJ ad oa size rc g fs st ln su rr cr bc bl td fi fa y5.2.1 y5.2.2.1 y5.2.2.2.1 y5.2.2.2.2 (vp_updL ou ((0 : Int32)).toNatClampNeg ((y5.1 : Int32).toInt64))) := hD
    refine lv_goto (tgt := 21) hx hb dL_candidates_10 (by decide) ?_
    refine lv_iconst (v := 0) hx hb dL_candidates_21 (by decide) ?_
    cases hf
    exact hR _ _ _ _ _ _ _ _ rfl rfl hP hD hS (Nat.le_of_ble_eq_true rfl) (Nat.le_of_ble_eq_true rfl) dL_candidates_22
