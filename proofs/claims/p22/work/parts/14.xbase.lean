/-! methods that throw their own exceptions: what goes with a contract, calls, ends -/
def eA : String := "java/lang/IllegalArgumentException"
def eS : String := "java/lang/IllegalStateException"
def eB : String := "java/lang/IndexOutOfBoundsException"
def excN (k : Nat) : String := if k = 1 then eA else if k = 2 then eS else eB
def excL : List String := [eA, eS, eB]
def nms : List String := ["java/lang/RuntimeException", "java/lang/Exception"]
def strT : List (Nat × String) := [(112, "so many answers are 1 to 5"), (120, "more than 4 open cells have no given digit"), (125, "trying for two answers is given up"), (142, "the last rule is 0 to 3"), (158, "there is no such cell"), (164, "there is no such run"), (38, "a size is 2 to 4"), (61, "a digit is 1 to 9, or 0 for none"), (65, "a barred cell takes no digit"), (78, "a sum is 1 to 45, or 0 for none"), (90, "an open cell has no digit"), (95, "a digit occurs twice in a run")]
def sm {α β γ : Type} (x : α ⊕ β) (f : α → γ) (g : β → γ) : γ := match x with
  | .inl a => f a
  | .inr b => g b
def ngL : List Cond := [.castable eA eA, .castable eS eS, .castable eB eB, .declares (Bundle.initS "java/lang/RuntimeException"), .declares (Bundle.initS "java/lang/Exception"), .declares (Bundle.initS Bundle.tN)]
theorem ngL_ok : ∀ w ∈ ngL, w.onTables = true ∧ w.warmB w.codeNames = true := by decide +kernel
def XS (A : Nat → Prop) (U : State) (H : Heap) : Prop := vx_Zq Bundle.tN "UNASSIGNED_STACK" Bundle.steD A U H ∧ vx_Zq Bundle.tN "SUPPRESSED_SENTINEL" Bundle.listD A U H ∧ (∀ q ∈ strT, ∃ sa, vk_R RX3 q.1 q.2 sa U) ∧ ∀ w ∈ ngL, va_Nw w U
theorem Nw_warmC {w : Cond} (hw : w.onTables = true ∧ w.warmB w.codeNames = true) {s U : State} (hW : s.WarmedH U.vm) (hZ : va_Nw w s) : va_Nw w U := va_tabs hw.1 (rfl : (s.setVm U.vm).vm = U.vm) (Cond.pre_warmed (args := #[]) hW hw.2 hZ)
theorem XS.same {A : Nat → Prop} {u U : State} {H : Heap} (h : U.vm = u.vm) (k : XS A u H) : XS A U H := by
  have hv : u.vm.Alike U.vm := by rw [h]; exact Vm.Alike.refl _
  exact ⟨vx_Zq.moved hv k.1, vx_Zq.moved hv k.2.1, fun q hq => (k.2.2.1 q hq).imp fun sa hs => vk_R.same h hs, fun w hw => va_Nw.same (ngL_ok w hw).1 h.symm (k.2.2.2 w hw)⟩
theorem XS.to {A B : Nat → Prop} {s U : State} {H : Heap} {locs : List Loc} (hW : s.WarmedH U.vm) (k : XS A s s.heap) (hS : va_S A s.heap H locs) (hAB : ∀ q, B q → A q) : XS B U H :=
  ⟨vx_Zq.narrow (vx_Zq.moved hW.alike (vx_Zq.kept k.1 hS.2.1)) hAB, vx_Zq.narrow (vx_Zq.moved hW.alike (vx_Zq.kept k.2.1 hS.2.1)) hAB, fun q hq => (k.2.2.1 q hq).imp fun sa hs => vk_R.warm hW hs, fun w hw => Nw_warmC (ngL_ok w hw) hW (k.2.2.2 w hw)⟩
abbrev PX (D : va_G) (cI cZ : ClassId) (sz : Nat) (av : List Value) (w : va_W) : Array Value → State → Prop := va_Pc av (fun U => U.heap.size = sz ∧ va_P D vwCl w U.heap ∧ KK D cI cZ U ∧ va_D (fun _ => True) w ∧ XS (va_A w sz) U U.heap)
theorem PX_blind {D : va_G} {cI cZ : ClassId} {sz : Nat} {av : List Value} {w : va_W} : FrameBlind (PX D cI cZ sz av w) := fun a U g mk h => ⟨h.1, h.2.1, h.2.2.1, h.2.2.2.1.same (U := U.calling g mk a) rfl, h.2.2.2.2.1, XS.same (u := U) (U := U.calling g mk a) (H := U.heap) rfl h.2.2.2.2.2⟩
abbrev QBx {T : Type} (D : va_G) (cI cZ : ClassId) (A : Nat → Prop) (w1 : T → va_W) : T → State → Prop := fun u t => va_P D vwCl (w1 u) t.heap ∧ KK D cI cZ t ∧ va_D A (w1 u)
abbrev QXI {T X : Type} (D : va_G) (cI cZ : ClassId) (sz : Nat) (w0 : va_W) (r : T ⊕ X) (ret : T → Int32) (w1 : T → va_W) : Array Value → State → Outcome → State → Prop := va_Qi (S := T) (fun v u => r = .inl u ∧ v = ret u) (QBx D cI cZ (va_A w0 sz) w1) (va_A w0 sz)
abbrev QXV {T X : Type} (D : va_G) (cI cZ : ClassId) (sz : Nat) (w0 : va_W) (r : T ⊕ X) (w1 : T → va_W) : Array Value → State → Outcome → State → Prop := va_Qv (S := T) (fun u => r = .inl u) (QBx D cI cZ (va_A w0 sz) w1) (va_A w0 sz)
abbrev QXX {T X : Type} (D : va_G) (sz : Nat) (w0 : va_W) (r : T ⊕ X) (cd : X → Nat) (wx : X → va_W) : String → State → State → Prop := vx_X (S := X) (fun x => r = .inr x) (fun E x t => E = excN (cd x) ∧ va_P D vwCl (wx x) t.heap ∧ va_D (va_A w0 sz) (wx x)) (va_A w0 sz)
theorem ng40 : ∀ w ∈ (vx_atS RX3 40 eA nms).filter (fun w => !goodWord w), w ∈ ngL := by decide +kernel
theorem ng67 : ∀ w ∈ (vx_atS RX3 67 eS nms).filter (fun w => !goodWord w), w ∈ ngL := by decide +kernel
theorem ng160 : ∀ w ∈ (vx_atS RX3 160 eB nms).filter (fun w => !goodWord w), w ∈ ngL := by decide +kernel
theorem go40 : ∀ w ∈ Cond.classLink RX3 36 eA :: Cond.initialized eA :: vx_atS RX3 40 eA nms, vx_ot w = true := by decide +kernel
theorem go67 : ∀ w ∈ Cond.classLink RX3 63 eS :: Cond.initialized eS :: vx_atS RX3 67 eS nms, vx_ot w = true := by decide +kernel
theorem go160 : ∀ w ∈ Cond.classLink RX3 156 eB :: Cond.initialized eB :: vx_atS RX3 160 eB nms, vx_ot w = true := by decide +kernel
section CLX
variable {p : Program} {l : Launch} {e : Env} {R : Room} {s : State} {m : MethodId} {args : Array Value} {below : List Frame} {meth : Method} {c : Code} {H : Heap} {locs : List Loc} {cells slots : Nat} {Q : State → Prop}
variable {pc : Nat} {ls : Array Slot} {rest st0 : List Value} {A0 : Nat → Prop} {y : MethodName} {bytes cc : ByteArray} {maxL nL n index mc ms : Nat} {rt : Option FieldType} {wsy : List Cond} {rm : Room} {Ts : List Cond} {own C host : String} {b : Addr} {As : List Value}
variable {D : va_G} {cI cZ : ClassId} {ws wc : va_W} {T X : Type} {r : T ⊕ X}
theorem px_pre (hK : KK D cI cZ s) (hX : XS A0 s s.heap) (hP : va_P D vwCl ws H) (hD : va_D A0 ws) (hS : va_S A0 s.heap H locs) (hA : ∀ q, s.heap.size ≤ q → A0 q) (isC : List Nat) (hn : va_nd isC = true) (hC : isC.map (fun i => ws[i]?) = wc.map some) {av : List Value} :
    ∀ U : State, U.heap = H → s.WarmedH U.vm → PX D cI cZ H.size av wc av.toArray U := by
  intro U hU hW
  obtain ⟨h1, h2, h3, h4, h5⟩ := pc_pre hK hP hD isC hn hC (av := av) U hU hW
  exact ⟨h1, h2, h3, h4, h5, by rw [hU]; exact hX.to hW hS (va_free hD hS hA isC hC)⟩
/-- a call that may throw; behind it the callee's cells are put back -/
theorem clX_i (ret : T → Int32) (w1 : T → va_W) (cd : X → Nat) (wx : X → va_W) (ws' : T → va_W) (wsx : X → va_W) (S : CallFix p m c cc nL s args Ts own)
    (hM : vx_Met l y wsy rm (PX D cI cZ H.size (.ref b :: As) wc) (QXI D cI cZ H.size wc r ret w1) (QXX D H.size wc r cd wx) mc ms (va_A wc H.size)) (cw : CallW R s args own C index y bytes maxL rt wsy rm mc ms n)
    (hK : KK D cI cZ s) (hX : XS A0 s s.heap) (hP : va_P D vwCl ws H) (hD : va_D A0 ws) (hS : va_S A0 s.heap H locs) (hA : ∀ q, s.heap.size ≤ q → A0 q) (hsize : ls.size = nL) (isC : List Nat) (hnd : va_nd isC = true) (hC : isC.map (fun i => ws[i]?) = wc.map some) (ha : ∀ u, (w1 u).map Prod.fst = wc.map Prod.fst) (hax : ∀ u, (wx u).map Prod.fst = wc.map Prod.fst)
    (hz : ∀ u, wput isC (w1 u) 0 ws = ws' u) (hzx : ∀ u, wput isC (wx u) 0 ws = wsx u) (ci q0 : Nat) {q : vw_C} {fs : List Value} (hcl : vwCl[ci]? = some q) (hCn : q.1 = C) (hq0 : ws[q0]? = some (b, .inr (ci, fs))) (hn : As.length = n) (hstack : st0 = As.reverse ++ .ref b :: rest) (hW : (rest.map fun v => v.category).sum ≤ 8) (hdg : decode cc pc = .ok (.invokevirtual index, 3)) (hf : cells + mc ≤ R.cells ∧ slots + ms ≤ R.slots)
    (kx : ∀ (z : X), r = .inr z → ∀ (E : String) (ce : Cell) (q9 : Addr) (H1 : Heap) (locs1 : List Loc), E = excN (cd z) → va_P D vwCl (wsx z) H1 → va_D A0 (wsx z) → va_S A0 s.heap H1 locs1 → H1[q9]? = some ce → ce.vm = .none → s.vm.findClass E = some ce.cls → vx_W p l e R s m args below meth c H1 locs1 (cells + mc) (slots + ms) Q (F0 m pc ls rest) q9)
    (kk : ∀ (u : T), r = .inl u → ∀ (H1 : Heap) (locs1 : List Loc), va_P D vwCl (ws' u) H1 → va_D A0 (ws' u) → va_S A0 s.heap H1 locs1 → W p l e R s m args below meth c H1 locs1 (cells + mc) (slots + ms) Q (F0 m (pc + 3) ls (.int (ret u) :: rest))) : W p l e R s m args below meth c H locs cells slots Q (F0 m pc ls st0) := by
  subst hCn
  have hF := va_free hD hS hA isC hC
  refine vx_calli (vx_runV (As := As) (rest := rest) S hM cw ⟨PX_blind, va_recv hK.1 hP hcl hq0, px_pre hK hX hP hD hS hA isC hnd hC⟩ rfl hn hsize hstack (lv_room hW) hdg hf) hS (fun q _ h => hF q h) hF (fun q _ h => hF q h) (fun E ce q9 u t H1 locs1 ht hvm hw hB hz1 hk1 hS1 hq hv hc => ?_) (fun r' u t H1 locs1 ht hvm hw hB hz1 hk1 hS1 => ?_)
  · have hP1 : va_P D vwCl (wx u) H1 := by rw [← ht]; exact hB.2.1
    obtain ⟨g1, g2⟩ := va_back hP hD isC hC (hax u) (hzx u) hk1 hP1
    exact kx u hw E ce q9 H1 locs1 hB.1 g1 g2 hS1 hq hv hc
  · obtain ⟨h1, h2⟩ := hw
    subst h2
    have hP1 : va_P D vwCl (w1 u) H1 := by rw [← ht]; exact hB.1
    obtain ⟨g1, g2⟩ := va_back hP hD isC hC (ha u) (hz u) hk1 hP1
    exact kk u h1 H1 locs1 g1 g2 hS1
theorem clX_v (w1 : T → va_W) (cd : X → Nat) (wx : X → va_W) (ws' : T → va_W) (wsx : X → va_W) (S : CallFix p m c cc nL s args Ts own)
    (hM : vx_Met l y wsy rm (PX D cI cZ H.size (.ref b :: As) wc) (QXV D cI cZ H.size wc r w1) (QXX D H.size wc r cd wx) mc ms (va_A wc H.size)) (cw : CallW R s args own C index y bytes maxL rt wsy rm mc ms n)
    (hK : KK D cI cZ s) (hX : XS A0 s s.heap) (hP : va_P D vwCl ws H) (hD : va_D A0 ws) (hS : va_S A0 s.heap H locs) (hA : ∀ q, s.heap.size ≤ q → A0 q) (hsize : ls.size = nL) (isC : List Nat) (hnd : va_nd isC = true) (hC : isC.map (fun i => ws[i]?) = wc.map some) (ha : ∀ u, (w1 u).map Prod.fst = wc.map Prod.fst) (hax : ∀ u, (wx u).map Prod.fst = wc.map Prod.fst)
    (hz : ∀ u, wput isC (w1 u) 0 ws = ws' u) (hzx : ∀ u, wput isC (wx u) 0 ws = wsx u) (ci q0 : Nat) {q : vw_C} {fs : List Value} (hcl : vwCl[ci]? = some q) (hCn : q.1 = C) (hq0 : ws[q0]? = some (b, .inr (ci, fs))) (hn : As.length = n) (hstack : st0 = As.reverse ++ .ref b :: rest) (hW : (rest.map fun v => v.category).sum ≤ 8) (hdg : decode cc pc = .ok (.invokevirtual index, 3)) (hf : cells + mc ≤ R.cells ∧ slots + ms ≤ R.slots)
    (kx : ∀ (z : X), r = .inr z → ∀ (E : String) (ce : Cell) (q9 : Addr) (H1 : Heap) (locs1 : List Loc), E = excN (cd z) → va_P D vwCl (wsx z) H1 → va_D A0 (wsx z) → va_S A0 s.heap H1 locs1 → H1[q9]? = some ce → ce.vm = .none → s.vm.findClass E = some ce.cls → vx_W p l e R s m args below meth c H1 locs1 (cells + mc) (slots + ms) Q (F0 m pc ls rest) q9)
    (kk : ∀ (u : T), r = .inl u → ∀ (H1 : Heap) (locs1 : List Loc), va_P D vwCl (ws' u) H1 → va_D A0 (ws' u) → va_S A0 s.heap H1 locs1 → W p l e R s m args below meth c H1 locs1 (cells + mc) (slots + ms) Q (F0 m (pc + 3) ls rest)) : W p l e R s m args below meth c H locs cells slots Q (F0 m pc ls st0) := by
  subst hCn
  have hF := va_free hD hS hA isC hC
  refine vx_callv (vx_runV (As := As) (rest := rest) S hM cw ⟨PX_blind, va_recv hK.1 hP hcl hq0, px_pre hK hX hP hD hS hA isC hnd hC⟩ rfl hn hsize hstack (lv_room hW) hdg hf) hS (fun q _ h => hF q h) hF (fun q _ h => hF q h) (fun E ce q9 u t H1 locs1 ht hvm hw hB hz1 hk1 hS1 hq hv hc => ?_) (fun u t H1 locs1 ht hvm hw hB hz1 hk1 hS1 => ?_)
  · have hP1 : va_P D vwCl (wx u) H1 := by rw [← ht]; exact hB.2.1
    obtain ⟨g1, g2⟩ := va_back hP hD isC hC (hax u) (hzx u) hk1 hP1
    exact kx u hw E ce q9 H1 locs1 hB.1 g1 g2 hS1 hq hv hc
  · have hP1 : va_P D vwCl (w1 u) H1 := by rw [← ht]; exact hB.1
    obtain ⟨g1, g2⟩ := va_back hP hD isC hC (ha u) (hz u) hk1 hP1
    exact kk u hw H1 locs1 g1 g2 hS1
end CLX
section MKX
variable {l : Launch} {y : MethodName} {ws ws' : List Cond} {rm : Room} {cc : ByteArray} {maxL : Nat} {D : va_G} {cI cZ : ClassId} {sz : Nat} {av : List Value} {w0 : va_W} {lv0 : List (Nat × Value)} {T X : Type} {r : T ⊕ X} {ret : T → Int32} {w1 : T → va_W} {cd : X → Nat} {wx : X → va_W} {mc ms : Nat}
/-- the rule of a throw, the rule of what is thrown further -/
def RuleT (l : Launch) (rm : Room) (D : va_G) (r : T ⊕ X) (cd : X → Nat) (wx : X → va_W) (mc ms maxL : Nat) (cc : ByteArray) (p : Program) (e : Env) (s : State) (m : MethodId) (args : Array Value) (below : List Frame) (meth : Method) (c : Code) (A : Nat → Prop) (Q : State → Prop) : Prop :=
  ∀ (H : Heap) (locs : List Loc) (cells slots : Nat) (x : X) (pc : Nat) (ls : Array Slot) (rest : List Value) (ik is ic : Nat) (cls text : String), r = .inr x → cls = excN (cd x) → Bundle.fit cls = true → (is, text) ∈ strT → va_P D vwCl (wx x) H → va_D A (wx x) → va_S A s.heap H locs → ls.size = maxL →
    (Cond.classLink RX3 ik cls).before args s = true → (Cond.initialized cls).before args s = true → (∀ w ∈ (vx_atS RX3 ic cls nms).filter goodWord, w.before args s = true) → (∀ w ∈ (vx_atS RX3 ic cls nms).filter (fun w => !goodWord w), w ∈ ngL) → (∀ w ∈ Cond.classLink RX3 ik cls :: Cond.initialized cls :: vx_atS RX3 ic cls nms, vx_ot w = true) →
    decode cc pc = .ok (.new ik, 3) → decode cc (pc + 3) = .ok (.dup, 1) → decode cc (pc + 4) = .ok (.ldc is, 2) → decode cc (pc + 6) = .ok (.invokespecial ic, 3) → decode cc (pc + 9) = .ok (.athrow, 1) →
    5 < rm.frames → (rest.map fun v => v.category).sum + 82 ≤ rm.locals → cells + 1 ≤ rm.cells → slots + 6 ≤ rm.slots → cells + 1 ≤ mc → slots + 6 ≤ ms → W p l e rm s m args below meth c H locs cells slots Q (F0 m pc ls rest)
def RuleX (l : Launch) (rm : Room) (D : va_G) (r : T ⊕ X) (cd : X → Nat) (wx : X → va_W) (mc ms : Nat) (p : Program) (e : Env) (s : State) (m : MethodId) (args : Array Value) (below : List Frame) (meth : Method) (c : Code) (A : Nat → Prop) (Q : State → Prop) : Prop :=
  ∀ (H : Heap) (locs : List Loc) (cells slots : Nat) (x : X) (pc : Nat) (ls : Array Slot) (rest : List Value) (q9 : Addr) (ce : Cell) (E : String), r = .inr x → E = excN (cd x) → va_P D vwCl (wx x) H → va_D A (wx x) → va_S A s.heap H locs → H[q9]? = some ce → ce.vm = .none → s.vm.findClass E = some ce.cls → cells ≤ mc → slots ≤ ms → vx_W p l e rm s m args below meth c H locs cells slots Q (F0 m pc ls rest) q9
theorem ruleT_of {p : Program} {e : Env} {s : State} {m : MethodId} {args : Array Value} {below : List Frame} {meth : Method} {c : Code} {Qc : Array Value → State → Outcome → State → Prop} (hst : l.stackTraces = false) (hx : p.tables.exec = Jvm.exec) (hb : c.code = cc) (hml : c.maxLocals = maxL) (hown : s.vm.findClass RX3 = some m.cls) (hlocks : meth.locks = false) (hout : ∀ x ∈ c.exceptionTable.toList, False) (hXS : XS (va_A w0 s.heap.size) s s.heap) :
    RuleT l rm D r cd wx mc ms maxL cc p e s m args below meth c (va_A w0 s.heap.size) (vx_MQ below Qc (QXX D s.heap.size w0 r cd wx) args s mc ms (va_A w0 s.heap.size)) := by
  intro H locs cells slots x pc ls rest ik is ic cls text hr hcd hfit hstr hP hD hS hsz hk hini hat hng hgo d0 d3 d4 d6 d9 hfr hlo hce hsl hmc hms
  obtain ⟨sa, hsa⟩ := hXS.2.2.1 (is, text) hstr
  refine vx_throwS (names := nms) (ik := ik) (is := is) (ic := ic) (sa := sa) (text := text) (cls := cls) hx hb hst hown hfit (by decide) hk hini hsa (vx_hat hat hng (fun w hw => va_Nw.use (ngL_ok w hw).1 (hXS.2.2.2 w hw))) hgo hXS.1 hXS.2.1 hS (hsz.trans hml.symm) d0 d3 d4 d6 d9 (fun x hx => (hout x hx).elim) hfr hlo hce hsl hlocks (fun t hvm h1 h2 => ?_) hS.2.2 hmc hms
  refine ⟨x, hr, ⟨hcd, hP.kept (fun k q hk => h2 q.1 ((hP k q hk).lt)), hD⟩, Nat.le_trans hS.1 h1, fun q hq hn => ?_⟩
  rw [h2 q (Nat.lt_of_lt_of_le hq hS.1)]
  exact hS.2.1 q hq hn
theorem ruleX_of {p : Program} {e : Env} {s : State} {m : MethodId} {args : Array Value} {below : List Frame} {meth : Method} {c : Code} {Qc : Array Value → State → Outcome → State → Prop} (hlocks : meth.locks = false) (hout : ∀ x ∈ c.exceptionTable.toList, False) :
    RuleX l rm D r cd wx mc ms p e s m args below meth c (va_A w0 s.heap.size) (vx_MQ below Qc (QXX D s.heap.size w0 r cd wx) args s mc ms (va_A w0 s.heap.size)) := by
  intro H locs cells slots x pc ls rest q9 ce E hr hcd hP hD hS hq hv hc hmc hms
  exact vx_out (fun x hx => (hout x hx).elim) hlocks hq hv hc (fun t ht hvm => ⟨x, hr, ⟨hcd, by rw [ht]; exact hP, hD⟩, hS.F ht⟩) hS.2.2 hmc hms
theorem mkx_v (hst : l.stackTraces = false) (hcls : y.cls = RX3) (hy : plainName y.cls = true) (hw : ws = Cond.code y cc maxL none :: ws') (hn : (lg_sl av).length ≤ maxL) (hlv : lv_args 0 av = lv0)
    (body : ∀ (p : Program) (e : Env) (s : State) (m : MethodId) (args : Array Value) (below : List Frame) (meth : Method) (c : Code) (ls : Array Slot) (A : Nat → Prop) (Q : State → Prop) (H : Heap), p.tables.exec = Jvm.exec → c.code = cc → c.maxLocals = maxL → s.vm.findClass RX3 = some m.cls → (∀ w ∈ ws, w.before args s = true) → KK D cI cZ s → XS A s s.heap → va_P D vwCl w0 H → va_D A w0 → (∀ q, s.heap.size ≤ q → A q) → va_S A s.heap H [] → lv_has ls maxL lv0 →
      (∀ (H : Heap) (locs : List Loc) (cells slots : Nat) (u : T) (w1' : va_W) (pc : Nat) (ls' : Array Slot), r = .inl u → w1' = w1 u → va_P D vwCl w1' H → va_D A w1' → va_S A s.heap H locs → cells ≤ mc → slots ≤ ms → decode cc pc = .ok (.return_, 1) → W p l e rm s m args below meth c H locs cells slots Q (F0 m pc ls' [])) →
      RuleT l rm D r cd wx mc ms maxL cc p e s m args below meth c A Q → RuleX l rm D r cd wx mc ms p e s m args below meth c A Q →
      W p l e rm s m args below meth c H [] 0 0 Q (F0 m 0 ls [])) : vx_Met l y ws rm (PX D cI cZ sz av w0) (QXV D cI cZ sz w0 r w1) (QXX D sz w0 r cd wx) mc ms (va_A w0 sz) := by
  refine vx_ofW (cc := cc) (maxL := maxL) (ret := none) hy hw ?_
  intro p e s m args below meth c s₁ B hml hout hv
  obtain ⟨hargs, hsz, hP, hK, hD0, hXS⟩ := hv
  have hts := atoms_spec (ws := ws) B.pre
  have hown : s.vm.findClass RX3 = some m.cls := by rw [← hcls]; exact findClass_of_methodNamed B.named
  have hl := lv_entry av (n := maxL) hn
  subst hsz
  subst hargs
  rw [lg_entry_eq]
  rw [hlv] at hl
  refine body p e s m _ below meth c _ (va_A w0 s.heap.size) _ _ B.exec B.bytes hml hown hts hK hXS hP hD0.self (fun q h => Or.inr h) va_S.rf hl ?_ (ruleT_of hst B.exec B.bytes hml hown B.notSynchronized hout hXS) (ruleX_of B.notSynchronized hout)
  intro H locs cells slots u w1' pc ls' hv hw1 hP hD hS h1 h2 hdg
  subst hw1
  exact vx_ret (W.widen h1 h2 (W.vret B.exec B.bytes B.returns (fun t ht hW => ⟨⟨u, rfl, hv, by rw [ht]; exact hP, hK.warm hW, hD⟩, hS.F ht⟩) hS.2.2 hdg B.notSynchronized))
theorem mkx_i (hst : l.stackTraces = false) (hcls : y.cls = RX3) (hy : plainName y.cls = true) (hw : ws = Cond.code y cc maxL (some .int) :: ws') (hn : (lg_sl av).length ≤ maxL) (hlv : lv_args 0 av = lv0)
    (body : ∀ (p : Program) (e : Env) (s : State) (m : MethodId) (args : Array Value) (below : List Frame) (meth : Method) (c : Code) (ls : Array Slot) (A : Nat → Prop) (Q : State → Prop) (H : Heap), p.tables.exec = Jvm.exec → c.code = cc → c.maxLocals = maxL → s.vm.findClass RX3 = some m.cls → (∀ w ∈ ws, w.before args s = true) → KK D cI cZ s → XS A s s.heap → va_P D vwCl w0 H → va_D A w0 → (∀ q, s.heap.size ≤ q → A q) → va_S A s.heap H [] → lv_has ls maxL lv0 →
      (∀ (H : Heap) (locs : List Loc) (cells slots : Nat) (v : Int32) (u : T) (w1' : va_W) (pc : Nat) (ls' : Array Slot), r = .inl u → v = ret u → w1' = w1 u → va_P D vwCl w1' H → va_D A w1' → va_S A s.heap H locs → cells ≤ mc → slots ≤ ms → decode cc pc = .ok (.ireturn, 1) → W p l e rm s m args below meth c H locs cells slots Q (F0 m pc ls' [.int v])) →
      RuleT l rm D r cd wx mc ms maxL cc p e s m args below meth c A Q → RuleX l rm D r cd wx mc ms p e s m args below meth c A Q →
      W p l e rm s m args below meth c H [] 0 0 Q (F0 m 0 ls [])) : vx_Met l y ws rm (PX D cI cZ sz av w0) (QXI D cI cZ sz w0 r ret w1) (QXX D sz w0 r cd wx) mc ms (va_A w0 sz) := by
  refine vx_ofW (cc := cc) (maxL := maxL) (ret := some .int) hy hw ?_
  intro p e s m args below meth c s₁ B hml hout hv
  obtain ⟨hargs, hsz, hP, hK, hD0, hXS⟩ := hv
  have hts := atoms_spec (ws := ws) B.pre
  have hown : s.vm.findClass RX3 = some m.cls := by rw [← hcls]; exact findClass_of_methodNamed B.named
  have hl := lv_entry av (n := maxL) hn
  subst hsz
  subst hargs
  rw [lg_entry_eq]
  rw [hlv] at hl
  refine body p e s m _ below meth c _ (va_A w0 s.heap.size) _ _ B.exec B.bytes hml hown hts hK hXS hP hD0.self (fun q h => Or.inr h) va_S.rf hl ?_ (ruleT_of hst B.exec B.bytes hml hown B.notSynchronized hout hXS) (ruleX_of B.notSynchronized hout)
  intro H locs cells slots v u w1' pc ls' hv hvr hw1 hP hD hS h1 h2 hdg
  subst hw1
  exact vx_ret (W.widen h1 h2 (W.iret (v := v) B.exec B.bytes B.returns (fun t ht hW => ⟨⟨v, u, rfl, ⟨hv, hvr⟩, by rw [ht]; exact hP, hK.warm hW, hD⟩, hS.F ht⟩) hS.2.2 hdg B.notSynchronized))
theorem mkx_z (hst : l.stackTraces = false) (hcls : y.cls = RX3) (hy : plainName y.cls = true) (hw : ws = Cond.code y cc maxL (some .boolean) :: ws') (hn : (lg_sl av).length ≤ maxL) (hlv : lv_args 0 av = lv0)
    (body : ∀ (p : Program) (e : Env) (s : State) (m : MethodId) (args : Array Value) (below : List Frame) (meth : Method) (c : Code) (ls : Array Slot) (A : Nat → Prop) (Q : State → Prop) (H : Heap), p.tables.exec = Jvm.exec → c.code = cc → c.maxLocals = maxL → s.vm.findClass RX3 = some m.cls → (∀ w ∈ ws, w.before args s = true) → KK D cI cZ s → XS A s s.heap → va_P D vwCl w0 H → va_D A w0 → (∀ q, s.heap.size ≤ q → A q) → va_S A s.heap H [] → lv_has ls maxL lv0 →
      (∀ (H : Heap) (locs : List Loc) (cells slots : Nat) (v : Int32) (u : T) (w1' : va_W) (pc : Nat) (ls' : Array Slot), v = 0 ∨ v = 1 → r = .inl u → v = ret u → w1' = w1 u → va_P D vwCl w1' H → va_D A w1' → va_S A s.heap H locs → cells ≤ mc → slots ≤ ms → decode cc pc = .ok (.ireturn, 1) → W p l e rm s m args below meth c H locs cells slots Q (F0 m pc ls' [.int v])) →
      RuleT l rm D r cd wx mc ms maxL cc p e s m args below meth c A Q → RuleX l rm D r cd wx mc ms p e s m args below meth c A Q →
      W p l e rm s m args below meth c H [] 0 0 Q (F0 m 0 ls [])) : vx_Met l y ws rm (PX D cI cZ sz av w0) (QXI D cI cZ sz w0 r ret w1) (QXX D sz w0 r cd wx) mc ms (va_A w0 sz) := by
  refine vx_ofW (cc := cc) (maxL := maxL) (ret := some .boolean) hy hw ?_
  intro p e s m args below meth c s₁ B hml hout hv
  obtain ⟨hargs, hsz, hP, hK, hD0, hXS⟩ := hv
  have hts := atoms_spec (ws := ws) B.pre
  have hown : s.vm.findClass RX3 = some m.cls := by rw [← hcls]; exact findClass_of_methodNamed B.named
  have hl := lv_entry av (n := maxL) hn
  subst hsz
  subst hargs
  rw [lg_entry_eq]
  rw [hlv] at hl
  refine body p e s m _ below meth c _ (va_A w0 s.heap.size) _ _ B.exec B.bytes hml hown hts hK hXS hP hD0.self (fun q h => Or.inr h) va_S.rf hl ?_ (ruleT_of hst B.exec B.bytes hml hown B.notSynchronized hout hXS) (ruleX_of B.notSynchronized hout)
  intro H locs cells slots v u w1' pc ls' h01 hv hvr hw1 hP hD hS h1 h2 hdg
  subst hw1
  exact vx_ret (W.widen h1 h2 (W.zret (v := v) (ty := .boolean) B.exec B.bytes B.returns (by rcases h01 with h | h <;> (subst h; rfl)) (fun t ht hW => ⟨⟨v, u, rfl, ⟨hv, hvr⟩, by rw [ht]; exact hP, hK.warm hW, hD⟩, hS.F ht⟩) hS.2.2 hdg B.notSynchronized))
end MKX
