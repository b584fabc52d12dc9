abbrev wGG (cI : ClassId) (ad bd : Nat → Nat) (size rc : Int32) (g fs st ln su rr cr : Nat → Int32) (bc : Int32) (bl td fi fa : Nat → Int32) (tk gr : Int32) (se sr : Nat → Int32) (size2 rc2 : Int32) (g2 fs2 st2 ln2 su2 rr2 cr2 : Nat → Int32) (bc2 : Int32) (bl2 td2 fi2 fa2 : Nat → Int32) (tk2 gr2 : Int32) (se2 sr2 : Nat → Int32) : va_W := [((ad 0), .inr (0, [.int size, .int rc, .ref (ad 1), .ref (ad 2), .ref (ad 3), .ref (ad 4), .ref (ad 5), .ref (ad 6), .ref (ad 7)])), ((ad 1), .inl (cI, 16, .inl g)), ((ad 2), .inl (cI, 8, .inl fs)), ((ad 3), .inl (cI, 8, .inl st)), ((ad 4), .inl (cI, 8, .inl ln)), ((ad 5), .inl (cI, 8, .inl su)), ((ad 6), .inl (cI, 16, .inl rr)), ((ad 7), .inl (cI, 16, .inl cr)), ((ad 8), .inr (2, [.ref (ad 0), .int bc, .ref (ad 9), .ref (ad 10), .ref (ad 11), .ref (ad 12)])), ((ad 9), .inl (cI, 16, .inl bl)), ((ad 10), .inl (cI, 16, .inl td)), ((ad 11), .inl (cI, 16, .inl fi)), ((ad 12), .inl (cI, 16, .inl fa)), ((ad 13), .inr (1, [.ref (ad 0), .ref (ad 14), .ref (ad 15), .int tk, .int gr])), ((ad 14), .inl (cI, 16, .inl se)), ((ad 15), .inl (cI, 4, .inl sr)), ((ad 16), .inr (3, [.ref (ad 0), .ref (ad 8), .ref (ad 13)])), ((bd 0), .inr (0, [.int size2, .int rc2, .ref (bd 1), .ref (bd 2), .ref (bd 3), .ref (bd 4), .ref (bd 5), .ref (bd 6), .ref (bd 7)])), ((bd 1), .inl (cI, 16, .inl g2)), ((bd 2), .inl (cI, 8, .inl fs2)), ((bd 3), .inl (cI, 8, .inl st2)), ((bd 4), .inl (cI, 8, .inl ln2)), ((bd 5), .inl (cI, 8, .inl su2)), ((bd 6), .inl (cI, 16, .inl rr2)), ((bd 7), .inl (cI, 16, .inl cr2)), ((bd 8), .inr (2, [.ref (bd 0), .int bc2, .ref (bd 9), .ref (bd 10), .ref (bd 11), .ref (bd 12)])), ((bd 9), .inl (cI, 16, .inl bl2)), ((bd 10), .inl (cI, 16, .inl td2)), ((bd 11), .inl (cI, 16, .inl fi2)), ((bd 12), .inl (cI, 16, .inl fa2)), ((bd 13), .inr (1, [.ref (bd 0), .ref (bd 14), .ref (bd 15), .int tk2, .int gr2])), ((bd 14), .inl (cI, 16, .inl se2)), ((bd 15), .inl (cI, 4, .inl sr2)), ((bd 16), .inr (3, [.ref (bd 0), .ref (bd 8), .ref (bd 13)]))]
/-! the law's own methods: those that catch, those that don't, the one that reads the script -/
def NC (U : State) : Prop := va_Nc eA eB U ∧ va_Nc eS eB U ∧ va_Nc eS eA U
theorem NC.moved {u U : State} (hvm : u.vm.Alike U.vm) (h : NC u) : NC U := ⟨va_Nc.moved hvm h.1, va_Nc.moved hvm h.2.1, va_Nc.moved hvm h.2.2⟩
abbrev PL (D : va_G) (cI cZ : ClassId) (sz : Nat) (av : List Value) (w : va_W) : Array Value → State → Prop := va_Pc av (fun U => U.heap.size = sz ∧ va_P D vwCl w U.heap ∧ KK D cI cZ U ∧ va_D (fun _ => True) w ∧ XS (va_A w sz) U U.heap ∧ NC U)
theorem PL_blind {D : va_G} {cI cZ : ClassId} {sz : Nat} {av : List Value} {w : va_W} : FrameBlind (PL D cI cZ sz av w) := fun a U g mk h => ⟨h.1, h.2.1, h.2.2.1, h.2.2.2.1.same (U := U.calling g mk a) rfl, h.2.2.2.2.1, XS.same (u := U) (U := U.calling g mk a) (H := U.heap) rfl h.2.2.2.2.2.1, NC.moved (u := U) (U := U.calling g mk a) (Vm.Alike.refl U.vm) h.2.2.2.2.2.2⟩
theorem Met_ofWH {l : Launch} {y : MethodName} {ws ws' : List Cond} {rm : Room} {Pc : Array Value → State → Prop} {Qc : Array Value → State → Outcome → State → Prop} {mc ms : Nat} {free : Addr → Prop} {cc : ByteArray} {maxL : Nat} {ret : Option FieldType} {hh : List (Nat × Nat × Nat × Nat)}
    (hy : plainName y.cls = true) (hw : ws = Cond.codeWith y cc maxL ret hh :: ws')
    (body : ∀ p e s m args below meth c s₁, BodyLoose p l y (headSpec ws rm) cc maxL ret e s m args below meth c s₁ → c.maxLocals = maxL → Pc args s →
      W p l e (headSpec ws rm).room s m args below meth c s.heap [] 0 0 (MQ below Qc args s mc ms free) (entryFrame m args maxL)) : Met l y ws rm Pc Qc mc ms free := by
  refine MetFree.of_bodyS (code := cc) (maxLocals := maxL) (ret := ret) hy ?_ ?_
  · intro args s m h hn
    obtain ⟨m9, meth, c, hn9, h1, h2, h3, h4, -, h5, h6, -⟩ := Cond.codeWith_spec (atoms_spec (ws := ws) h _ (by rw [hw]; exact List.mem_cons_self))
    cases hn.symm.trans hn9
    exact ⟨meth, c, h1, h2, h3, h4, h5, h6⟩
  · intro p e s m args below meth c s₁ B hml hP _
    have hh0 : s₁.heap = s.heap := by rw [B.state]; rfl
    obtain ⟨t, a1, o, b1, b2, b3⟩ := body p e s m args below meth c s₁ B hml hP s₁ hh0 (Stand.of_body B)
    exact ⟨t, o, a1, b1, b2, ⟨b3.1, b3.2⟩⟩
theorem mkl_i {l : Launch} {y : MethodName} {ws ws' : List Cond} {rm : Room} {cc : ByteArray} {maxL : Nat} {D : va_G} {cI cZ : ClassId} {sz : Nat} {av : List Value} {w0 w1 : va_W} {r : Int32} {lv0 : List (Nat × Value)} {hh : List (Nat × Nat × Nat × Nat)} {mc ms : Nat} (hcls : y.cls = RL)
    (hy : plainName y.cls = true) (hw : ws = Cond.codeWith y cc maxL (some .int) hh :: ws') (hn : (lg_sl av).length ≤ maxL) (hlv : lv_args 0 av = lv0)
    (body : ∀ (p : Program) (e : Env) (s : State) (m : MethodId) (args : Array Value) (below : List Frame) (meth : Method) (c : Code) (ls : Array Slot) (A : Nat → Prop) (Q : State → Prop) (H : Heap), p.tables.exec = Jvm.exec → c.code = cc → c.maxLocals = maxL → s.vm.findClass RL = some m.cls → (∀ w ∈ ws, w.before args s = true) → KK D cI cZ s → XS A s s.heap → NC s → va_P D vwCl w0 H → va_D A w0 → (∀ q, s.heap.size ≤ q → A q) → va_S A s.heap H [] → lv_has ls maxL lv0 → c.exceptionTable.toList = tableOf hh →
      (∀ (H : Heap) (locs : List Loc) (cells slots : Nat) (v : Int32) (w1' : va_W) (pc : Nat) (ls' : Array Slot), v = r → w1' = w1 → va_P D vwCl w1' H → va_D A w1' → va_S A s.heap H locs → cells ≤ mc → slots ≤ ms → decode cc pc = .ok (.ireturn, 1) → W p l e rm s m args below meth c H locs cells slots Q (F0 m pc ls' [.int v])) →
      W p l e rm s m args below meth c H [] 0 0 Q (F0 m 0 ls [])) : Met l y ws rm (PL D cI cZ sz av w0) (QI D cI cZ sz w0 r w1) mc ms (va_A w0 sz) := by
  refine Met_ofWH (cc := cc) (maxL := maxL) (ret := some .int) (hh := hh) hy hw ?_
  intro p e s m args below meth c s₁ B hml hv
  obtain ⟨hargs, hsz, hP, hK, hD0, hXS, hNC⟩ := hv
  have hts := atoms_spec (ws := ws) B.pre
  have hown : s.vm.findClass RL = some m.cls := by rw [← hcls]; exact findClass_of_methodNamed B.named
  have htab := vx_table (x := y) B (hts _ (by rw [hw]; exact List.mem_cons_self))
  have hl := lv_entry av (n := maxL) hn
  subst hsz
  subst hargs
  rw [lg_entry_eq]
  rw [hlv] at hl
  refine body p e s m _ below meth c _ (va_A w0 s.heap.size) _ _ B.exec B.bytes hml hown hts hK hXS hNC hP hD0.self (fun q h => Or.inr h) va_S.rf hl htab ?_
  intro H locs cells slots v w1' pc ls' hv hw1 hP hD hS h1 h2 hdg
  subst hw1
  exact W.widen h1 h2 (W.iret (v := v) B.exec B.bytes B.returns (fun t ht hW => ⟨⟨v, (), rfl, hv, by rw [ht]; exact hP, hK.warm hW, hD⟩, hS.F ht⟩) hS.2.2 hdg B.notSynchronized)
theorem mkp_i {l : Launch} {y : MethodName} {ws ws' : List Cond} {rm : Room} {cc : ByteArray} {maxL : Nat} {D : va_G} {cI cZ : ClassId} {sz : Nat} {av : List Value} {w0 w1 : va_W} {r : Int32} {lv0 : List (Nat × Value)} {mc ms : Nat} (hcls : y.cls = RL)
    (hy : plainName y.cls = true) (hw : ws = Cond.code y cc maxL (some .int) :: ws') (hn : (lg_sl av).length ≤ maxL) (hlv : lv_args 0 av = lv0)
    (body : ∀ (p : Program) (e : Env) (s : State) (m : MethodId) (args : Array Value) (below : List Frame) (meth : Method) (c : Code) (ls : Array Slot) (A : Nat → Prop) (Q : State → Prop) (H : Heap), p.tables.exec = Jvm.exec → c.code = cc → c.maxLocals = maxL → s.vm.findClass RL = some m.cls → (∀ w ∈ ws, w.before args s = true) → KK D cI cZ s → XS A s s.heap → NC s → va_P D vwCl w0 H → va_D A w0 → (∀ q, s.heap.size ≤ q → A q) → va_S A s.heap H [] → lv_has ls maxL lv0 →
      (∀ (H : Heap) (locs : List Loc) (cells slots : Nat) (v : Int32) (w1' : va_W) (pc : Nat) (ls' : Array Slot), v = r → w1' = w1 → va_P D vwCl w1' H → va_D A w1' → va_S A s.heap H locs → cells ≤ mc → slots ≤ ms → decode cc pc = .ok (.ireturn, 1) → W p l e rm s m args below meth c H locs cells slots Q (F0 m pc ls' [.int v])) →
      W p l e rm s m args below meth c H [] 0 0 Q (F0 m 0 ls [])) : Met l y ws rm (PL D cI cZ sz av w0) (QI D cI cZ sz w0 r w1) mc ms (va_A w0 sz) := by
  refine Met.ofW (cc := cc) (maxL := maxL) (ret := some .int) hy hw ?_
  intro p e s m args below meth c s₁ B hml hv
  obtain ⟨hargs, hsz, hP, hK, hD0, hXS, hNC⟩ := hv
  have hts := atoms_spec (ws := ws) B.pre
  have hown : s.vm.findClass RL = some m.cls := by rw [← hcls]; exact findClass_of_methodNamed B.named
  have hl := lv_entry av (n := maxL) hn
  subst hsz
  subst hargs
  rw [lg_entry_eq]
  rw [hlv] at hl
  refine body p e s m _ below meth c _ (va_A w0 s.heap.size) _ _ B.exec B.bytes hml hown hts hK hXS hNC hP hD0.self (fun q h => Or.inr h) va_S.rf hl ?_
  intro H locs cells slots v w1' pc ls' hv hw1 hP hD hS h1 h2 hdg
  subst hw1
  exact W.widen h1 h2 (W.iret (v := v) B.exec B.bytes B.returns (fun t ht hW => ⟨⟨v, (), rfl, hv, by rw [ht]; exact hP, hK.warm hW, hD⟩, hS.F ht⟩) hS.2.2 hdg B.notSynchronized)
theorem mkp_z {l : Launch} {y : MethodName} {ws ws' : List Cond} {rm : Room} {cc : ByteArray} {maxL : Nat} {D : va_G} {cI cZ : ClassId} {sz : Nat} {av : List Value} {w0 w1 : va_W} {r : Int32} {lv0 : List (Nat × Value)} {mc ms : Nat} (hcls : y.cls = RL)
    (hy : plainName y.cls = true) (hw : ws = Cond.code y cc maxL (some .boolean) :: ws') (hn : (lg_sl av).length ≤ maxL) (hlv : lv_args 0 av = lv0)
    (body : ∀ (p : Program) (e : Env) (s : State) (m : MethodId) (args : Array Value) (below : List Frame) (meth : Method) (c : Code) (ls : Array Slot) (A : Nat → Prop) (Q : State → Prop) (H : Heap), p.tables.exec = Jvm.exec → c.code = cc → c.maxLocals = maxL → s.vm.findClass RL = some m.cls → (∀ w ∈ ws, w.before args s = true) → KK D cI cZ s → XS A s s.heap → NC s → va_P D vwCl w0 H → va_D A w0 → (∀ q, s.heap.size ≤ q → A q) → va_S A s.heap H [] → lv_has ls maxL lv0 →
      (∀ (H : Heap) (locs : List Loc) (cells slots : Nat) (v : Int32) (w1' : va_W) (pc : Nat) (ls' : Array Slot), v = 0 ∨ v = 1 → v = r → w1' = w1 → va_P D vwCl w1' H → va_D A w1' → va_S A s.heap H locs → cells ≤ mc → slots ≤ ms → decode cc pc = .ok (.ireturn, 1) → W p l e rm s m args below meth c H locs cells slots Q (F0 m pc ls' [.int v])) →
      W p l e rm s m args below meth c H [] 0 0 Q (F0 m 0 ls [])) : Met l y ws rm (PL D cI cZ sz av w0) (QI D cI cZ sz w0 r w1) mc ms (va_A w0 sz) := by
  refine Met.ofW (cc := cc) (maxL := maxL) (ret := some .boolean) hy hw ?_
  intro p e s m args below meth c s₁ B hml hv
  obtain ⟨hargs, hsz, hP, hK, hD0, hXS, hNC⟩ := hv
  have hts := atoms_spec (ws := ws) B.pre
  have hown : s.vm.findClass RL = some m.cls := by rw [← hcls]; exact findClass_of_methodNamed B.named
  have hl := lv_entry av (n := maxL) hn
  subst hsz
  subst hargs
  rw [lg_entry_eq]
  rw [hlv] at hl
  refine body p e s m _ below meth c _ (va_A w0 s.heap.size) _ _ B.exec B.bytes hml hown hts hK hXS hNC hP hD0.self (fun q h => Or.inr h) va_S.rf hl ?_
  intro H locs cells slots v w1' pc ls' h01 hv hw1 hP hD hS h1 h2 hdg
  subst hw1
  exact W.widen h1 h2 (W.zret (v := v) (ty := .boolean) B.exec B.bytes B.returns (by rcases h01 with h | h <;> (subst h; rfl)) (fun t ht hW => ⟨⟨v, (), rfl, hv, by rw [ht]; exact hP, hK.warm hW, hD⟩, hS.F ht⟩) hS.2.2 hdg B.notSynchronized)
theorem clSW_i {p : Program} {l : Launch} {e : Env} {R : Room} {s : State} {m : MethodId} {args : Array Value} {below : List Frame} {meth : Method} {c : Code} {H : Heap} {locs : List Loc} {cells slots : Nat} {Q : State → Prop} {pc : Nat} {ls : Array Slot} {rest st0 : List Value} {A0 : Nat → Prop} {y : MethodName} {bytes cc : ByteArray} {maxL nL n index mc ms : Nat} {ret : Option FieldType} {hh : List (Nat × Nat × Nat × Nat)} {wsy : List Cond} {rm : Room} {Ts : List Cond} {own : String} {As : List Value}
    {D : va_G} {cI cZ : ClassId} {ws wc w1 : va_W} {r : Int32} (ws' : va_W) (S : CallFix p m c cc nL s args Ts own) (hM : Met l y wsy rm (PL D cI cZ H.size As wc) (QI D cI cZ H.size wc r w1) mc ms (va_A wc H.size)) (cw : vx_CSW R s args own index y bytes maxL ret hh wsy rm mc ms n)
    (hK : KK D cI cZ s) (hX : XS A0 s s.heap) (hNC : NC s) (hP : va_P D vwCl ws H) (hD : va_D A0 ws) (hS : va_S A0 s.heap H locs) (hA : ∀ q, s.heap.size ≤ q → A0 q) (hsize : ls.size = nL) (isC : List Nat) (hnd : va_nd isC = true) (hC : isC.map (fun i => ws[i]?) = wc.map some) (ha : w1.map Prod.fst = wc.map Prod.fst)
    (hz : wput isC w1 0 ws = ws') (hn : As.length = n) (hstack : st0 = As.reverse ++ rest) (hW : (rest.map fun v => v.category).sum ≤ 8) (hdg : decode cc pc = .ok (.invokestatic index, 3)) (hf : cells + mc ≤ R.cells ∧ slots + ms ≤ R.slots)
    (kk : ∀ (H1 : Heap) (locs1 : List Loc), va_P D vwCl ws' H1 → va_D A0 ws' → va_S A0 s.heap H1 locs1 → W p l e R s m args below meth c H1 locs1 (cells + mc) (slots + ms) Q (F0 m (pc + 3) ls (.int r :: rest))) : W p l e R s m args below meth c H locs cells slots Q (F0 m pc ls st0) := by
  refine cl_run_i (As := As) ws' (vx_runSW (As := As) (rest := rest) S hM cw ⟨PL_blind, fun U hU hW => ?_⟩ rfl hn hsize hstack (lv_room hW) hdg hf) hP hD hS hA isC hC ha hz kk
  obtain ⟨h1, h2, h3, h4, h5, h6⟩ := px_pre hK hX hP hD hS hA isC hnd hC (av := As) U hU hW
  exact ⟨h1, h2, h3, h4, h5, h6, NC.moved hW.alike hNC⟩
theorem clSP_i {p : Program} {l : Launch} {e : Env} {R : Room} {s : State} {m : MethodId} {args : Array Value} {below : List Frame} {meth : Method} {c : Code} {H : Heap} {locs : List Loc} {cells slots : Nat} {Q : State → Prop} {pc : Nat} {ls : Array Slot} {rest st0 : List Value} {A0 : Nat → Prop} {y : MethodName} {bytes cc : ByteArray} {maxL nL n index mc ms : Nat} {ret : Option FieldType} {wsy : List Cond} {rm : Room} {Ts : List Cond} {own : String} {As : List Value}
    {D : va_G} {cI cZ : ClassId} {ws wc w1 : va_W} {r : Int32} (ws' : va_W) (S : CallFix p m c cc nL s args Ts own) (hM : Met l y wsy rm (PL D cI cZ H.size As wc) (QI D cI cZ H.size wc r w1) mc ms (va_A wc H.size)) (cw : CallB R s args own index y bytes maxL ret wsy rm mc ms n ∧ (Cond.static y).before args s = true)
    (hK : KK D cI cZ s) (hX : XS A0 s s.heap) (hNC : NC s) (hP : va_P D vwCl ws H) (hD : va_D A0 ws) (hS : va_S A0 s.heap H locs) (hA : ∀ q, s.heap.size ≤ q → A0 q) (hsize : ls.size = nL) (isC : List Nat) (hnd : va_nd isC = true) (hC : isC.map (fun i => ws[i]?) = wc.map some) (ha : w1.map Prod.fst = wc.map Prod.fst)
    (hz : wput isC w1 0 ws = ws') (hn : As.length = n) (hstack : st0 = As.reverse ++ rest) (hW : (rest.map fun v => v.category).sum ≤ 8) (hdg : decode cc pc = .ok (.invokestatic index, 3)) (hf : cells + mc ≤ R.cells ∧ slots + ms ≤ R.slots)
    (kk : ∀ (H1 : Heap) (locs1 : List Loc), va_P D vwCl ws' H1 → va_D A0 ws' → va_S A0 s.heap H1 locs1 → W p l e R s m args below meth c H1 locs1 (cells + mc) (slots + ms) Q (F0 m (pc + 3) ls (.int r :: rest))) : W p l e R s m args below meth c H locs cells slots Q (F0 m pc ls st0) := by
  refine cl_run_i (As := As) ws' (va_runS (As := As) (rest := rest) S hM cw ⟨PL_blind, fun U hU hW => ?_⟩ rfl hn hsize hstack (lv_room hW) hdg hf) hP hD hS hA isC hC ha hz kk
  obtain ⟨h1, h2, h3, h4, h5, h6⟩ := px_pre hK hX hP hD hS hA isC hnd hC (av := As) U hU hW
  exact ⟨h1, h2, h3, h4, h5, h6, NC.moved hW.alike hNC⟩
theorem tbl_out {x : Int32} (h : ∀ k : Nat, k < 8 → ¬ x = Int32.ofNat k) : x.toInt < 0 ∨ 7 < x.toInt := by
  by_cases h1 : x.toInt < 0
  · exact Or.inl h1
  · by_cases h2 : 7 < x.toInt
    · exact Or.inr h2
    · exfalso
      refine h x.toInt.toNat (by omega) (Int32.toInt_inj.mp ?_)
      have h3 : (Int32.ofNat x.toInt.toNat).toInt = ((x.toInt.toNat : Nat) : Int) := nI_toInt (n := x.toInt.toNat) (by omega)
      rw [h3]
      omega
/-- what goes with the method that reads the script -/
abbrev PS (D : va_G) (cI cZ : ClassId) (b L : Nat) (xs : Nat → Int32) (sz : Nat) (av : List Value) : Array Value → State → Prop := va_Pc av (fun U => U.heap.size = sz ∧ va_P D vwCl wE U.heap ∧ KK D cI cZ U ∧ va_D (fun _ => True) wE ∧ va_X b L xs U U.heap ∧ b < U.heap.size)
theorem PS_blind {D : va_G} {cI cZ : ClassId} {b L : Nat} {xs : Nat → Int32} {sz : Nat} {av : List Value} : FrameBlind (PS D cI cZ b L xs sz av) := fun a U g mk h => ⟨h.1, h.2.1, h.2.2.1, h.2.2.2.1.same (U := U.calling g mk a) rfl, h.2.2.2.2.1, va_X.moved (u := U) (U := U.calling g mk a) (Vm.Alike.refl U.vm) h.2.2.2.2.2.1, h.2.2.2.2.2.2⟩
def f_L_cell (L : Nat) (xs : Nat → Int32) (p1 : Int32) : Option Int32 := if nI L ≤ p1 then some ((7919 * (p1 + 881)) * (p1 + 953)) else gd (inR p1 L) <| some (xs p1.toNatClampNeg)
def rm_L_cell : Room := { frames := 0, cells := 0, slots := 0, locals := 0 }
set_option maxRecDepth 100000 in
set_option maxHeartbeats 8000000 in
theorem K_L_cell (l : Launch) (D : va_G) (cI cZ : ClassId) (b L : Nat) (hL : L < 2 ^ 31) (xs : Nat → Int32) (sz : Nat) (p1 : Int32) (r : Int32) (hf : f_L_cell L xs p1 = some r) : Met l yL_cell wsL_cell rm_L_cell (PS D cI cZ b L xs sz [.ref b, .int p1]) (QI D cI cZ sz wE r wE) 0 0 (va_A wE sz) := by
  refine Met.ofW (cc := cL_cell) (maxL := 2) (ret := some .int) (by decide) rfl ?_
  intro p e s m args below meth c s₁ B hml hv
  obtain ⟨hargs, hsz, hP, hK, hD0, hX, hbl⟩ := hv
  have hts := atoms_spec (ws := wsL_cell) B.pre
  have hl := lv_entry [.ref b, .int p1] (n := 2) (Nat.le_of_ble_eq_true rfl)
  subst hsz
  subst hargs
  rw [lg_entry_eq]
  generalize (lg_sl ([.ref b, .int p1]) ++ List.replicate (2 - (lg_sl ([.ref b, .int p1])).length) Slot.unset).toArray = ls at hl ⊢
  have hl : lv_has ls 2 [(0, .ref b), (1, .int p1)] := hl
  have hx := B.exec
  have hb := B.bytes
  have hD : va_D (va_A wE s.heap.size) wE := hD0.self
  have hS : va_S (va_A wE s.heap.size) s.heap s.heap [] := va_S.rf
  have hbA : ¬ va_A wE s.heap.size b := fun h => by
    rcases h with ⟨k, e, h⟩ | h
    · simp at h
    · omega
  have hR : ∀ (v : Int32) (pc : Nat) (ls' : Array Slot), v = r → decode cL_cell pc = .ok (.ireturn, 1) → W p l e (headSpec wsL_cell rm_L_cell).room s m #[Value.ref b, Value.int p1] below meth c s.heap [] 0 0 (MQ below (QI D cI cZ (Array.size s.heap) wE r wE) #[Value.ref b, Value.int p1] s 0 0 (va_A wE (Array.size s.heap))) (F0 m pc ls' [.int v]) := fun v pc ls' hv hdg => W.iret (v := v) B.exec B.bytes B.returns (fun t ht hW => ⟨⟨v, (), rfl, hv, by rw [ht]; exact hP, hK.warm hW, hD⟩, hS.F ht⟩) hS.2.2 hdg B.notSynchronized
  rw [f_L_cell] at hf
  refine lv_iload_n hx hb dL_cell_0 rfl (lv_at hl 1 rfl) ?_
  refine lv_aload_n hx hb dL_cell_1 rfl (lv_at hl 0 rfl) ?_
  refine va_slen hx hb hX hbl hbA hS dL_cell_2 ?_
  refine lv_icmp_ge (tgt := 12) hx hb dL_cell_3 (by decide) (fun c_3 => ?_) (fun c_3 => ?_)
  · have hf := ite_t c_3 hf
    refine lv_sipush (v := 7919) hx hb dL_cell_12 (by decide) ?_
    refine lv_iload_n hx hb dL_cell_15 rfl (lv_at hl 1 rfl) ?_
    refine lv_sipush (v := 881) hx hb dL_cell_16 (by decide) ?_
    refine lv_iadd hx hb dL_cell_19 ?_
    refine lv_imul hx hb dL_cell_20 ?_
    refine lv_iload_n hx hb dL_cell_21 rfl (lv_at hl 1 rfl) ?_
    refine lv_sipush (v := 953) hx hb dL_cell_22 (by decide) ?_
    refine lv_iadd hx hb dL_cell_25 ?_
    refine lv_imul hx hb dL_cell_26 ?_
    exact hR _ _ _ (Option.some.inj hf) dL_cell_27
  · have hf := ite_f c_3 hf
    obtain ⟨hz8, hf⟩ := gd_some hf
    refine lv_aload_n hx hb dL_cell_6 rfl (lv_at hl 0 rfl) ?_
    refine lv_iload_n hx hb dL_cell_7 rfl (lv_at hl 1 rfl) ?_
    refine va_sld hx hb hX hbl hbA hS hz8 dL_cell_8 ?_
    refine lv_goto (tgt := 27) hx hb dL_cell_9 (by decide) ?_
    exact hR _ _ _ (Option.some.inj hf) dL_cell_27
theorem clC_i {p : Program} {l : Launch} {e : Env} {R : Room} {s : State} {m : MethodId} {args : Array Value} {below : List Frame} {meth : Method} {c : Code} {H : Heap} {locs : List Loc} {cells slots : Nat} {Q : State → Prop} {pc : Nat} {ls : Array Slot} {rest st0 : List Value} {A0 : Nat → Prop} {y : MethodName} {bytes cc : ByteArray} {maxL nL n index mc ms : Nat} {ret : Option FieldType} {wsy : List Cond} {rm : Room} {Ts : List Cond} {own : String} {As : List Value}
    {D : va_G} {cI cZ : ClassId} {ws : va_W} {r : Int32} {b L : Nat} {hL : L < 2 ^ 31} {xs : Nat → Int32} (S : CallFix p m c cc nL s args Ts own) (hM : Met l y wsy rm (PS D cI cZ b L xs H.size As) (QI D cI cZ H.size wE r wE) mc ms (va_A wE H.size)) (cw : CallB R s args own index y bytes maxL ret wsy rm mc ms n ∧ (Cond.static y).before args s = true)
    (hK : KK D cI cZ s) (hXs : va_X b L xs s s.heap) (hbl : b < s.heap.size) (hbA : ¬ A0 b) (hP : va_P D vwCl ws H) (hD : va_D A0 ws) (hS : va_S A0 s.heap H locs) (hA : ∀ q, s.heap.size ≤ q → A0 q) (hsize : ls.size = nL)
    (hn : As.length = n) (hstack : st0 = As.reverse ++ rest) (hW : (rest.map fun v => v.category).sum ≤ 8) (hdg : decode cc pc = .ok (.invokestatic index, 3)) (hf : cells + mc ≤ R.cells ∧ slots + ms ≤ R.slots)
    (kk : ∀ (H1 : Heap) (locs1 : List Loc), va_P D vwCl ws H1 → va_D A0 ws → va_S A0 s.heap H1 locs1 → W p l e R s m args below meth c H1 locs1 (cells + mc) (slots + ms) Q (F0 m (pc + 3) ls (.int r :: rest))) : W p l e R s m args below meth c H locs cells slots Q (F0 m pc ls st0) := by
  have hput : ∀ (w : va_W) (k : Nat), wput [] wE k w = w := by
    intro w
    induction w with
    | nil => intro k; rfl
    | cons x w ih => intro k; show wsel [] wE k x :: wput [] wE (k + 1) w = x :: w; rw [ih]; rfl
  refine cl_run_i (As := As) ws (va_runS (As := As) (rest := rest) S hM cw ⟨PS_blind, fun U hU hW => ?_⟩ rfl hn hsize hstack (lv_room hW) hdg hf) hP hD hS hA [] rfl rfl (hput ws 0) kk
  obtain ⟨h1, h2, h3, h4, h5⟩ := pc_pre hK hP hD [] (by decide) (wc := wE) rfl (av := As) U hU hW
  refine ⟨h1, h2, h3, h4, h5, ?_, ?_⟩
  · rw [hU]; exact va_X.moved hW.alike (va_X.kept hXs (hS.2.1 b hbl hbA))
  · rw [hU]; exact Nat.lt_of_lt_of_le hbl hS.1
