/-! the trying, step by step -/
theorem upd_upd (f : Nat → Int32) (k : Nat) (x y : Int32) : upd (upd f k x) k y = upd f k y := by
  funext j
  by_cases h : j = k
  · rw [h, upd_eq, upd_eq]
  · rw [upd_ne _ _ h, upd_ne _ _ h, upd_ne _ _ h]
def BOK (B : List Nat) : Prop := B.length ≤ 16 ∧ (∀ c, c ∈ B → c < 16) ∧ ∀ q q' c : Nat, B[q]? = some c → B[q']? = some c → q = q'
def ST (B : List Nat) (f : Nat → Int32) (p : Nat) (td fi mdi : Nat → Int32) : Prop :=
  (∀ c, c < 16 → fi c = mdi c ∧ ∃ e : Nat, e ≤ 9 ∧ fi c = nI e) ∧ (∀ c, c < 16 → c ∉ B → fi c = f c) ∧ (∀ q c : Nat, B[q]? = some c → ∃ e : Nat, e ≤ 9 ∧ td c = nI e) ∧ (∀ q c : Nat, q < p → B[q]? = some c → td c = fi c) ∧ ∀ q c : Nat, p < q → B[q]? = some c → td c = 0
def HD (B : List Nat) (p : Nat) (td fa : Nat → Int32) : Prop :=
  ∃ j, j ≤ p ∧ (∀ q c : Nat, q < j → B[q]? = some c → td c = fa c) ∧ ∀ c : Nat, B[j]? = some c → ∃ x y : Nat, x ≤ 9 ∧ y ≤ 9 ∧ td c = nI x ∧ fa c = nI y ∧ (y < x ∨ (j = p ∧ y ≤ x))
def FA (B : List Nat) (f : Nat → Int32) (p : Nat) (td fa mfa : Nat → Int32) : Prop :=
  (∀ c, c < 16 → fa c = mfa c ∧ ∃ e : Nat, e ≤ 9 ∧ fa c = nI e) ∧ (∀ c, c < 16 → c ∉ B → fa c = f c) ∧ HD B p td fa
theorem ST_put {B : List Nat} {f td fi mdi : Nat → Int32} {p c e v : Nat} (hB : BOK B) (h : ST B f p td fi mdi) (hc : B[p]? = some c) (he : e ≤ 9) (hv : v ≤ 9) : ST B f p (upd td c (nI e)) (upd fi c (nI v)) (upd mdi c (nI v)) := by
  obtain ⟨h1, h2, h3, h4, h5⟩ := h
  refine ⟨fun x hx => ?_, fun x hx hxB => ?_, fun q x hq => ?_, fun q x hq hx => ?_, fun q x hq hx => ?_⟩
  · by_cases hq : x = c
    · rw [hq, upd_eq, upd_eq]; exact ⟨rfl, v, hv, rfl⟩
    · rw [upd_ne _ _ hq, upd_ne _ _ hq]; exact h1 x hx
  · have hq : x ≠ c := fun q => hxB (q ▸ List.mem_of_getElem? hc)
    rw [upd_ne _ _ hq]; exact h2 x hx hxB
  · by_cases hq' : x = c
    · rw [hq', upd_eq]; exact ⟨e, he, rfl⟩
    · rw [upd_ne _ _ hq']; exact h3 q x hq
  · have hq' : x ≠ c := fun w => by subst w; have := hB.2.2 q p x hx hc; omega
    rw [upd_ne _ _ hq', upd_ne _ _ hq']; exact h4 q x hq hx
  · have hq' : x ≠ c := fun w => by subst w; have := hB.2.2 q p x hx hc; omega
    rw [upd_ne _ _ hq']; exact h5 q x hq hx
theorem ST_down {B : List Nat} {f td fi mdi : Nat → Int32} {p c : Nat} (h : ST B f (p + 1) td fi mdi) (hc : B[p + 1]? = some c) (h0 : td c = 0) (hB : BOK B) : ST B f p td fi mdi := by
  obtain ⟨h1, h2, h3, h4, h5⟩ := h
  refine ⟨h1, h2, h3, fun q x hq hx => h4 q x (by omega) hx, fun q x hq hx => ?_⟩
  by_cases hq' : q = p + 1
  · subst hq'; rw [hc] at hx; cases hx; exact h0
  · exact h5 q x (by omega) hx
theorem HD_try {B : List Nat} {td fa : Nat → Int32} {p c e : Nat} (hB : BOK B) (h : HD B p td fa) (hc : B[p]? = some c) (he : e ≤ 8) (ht : td c = nI e) (p' : Nat) (hp : p ≤ p') : HD B p' (upd td c (nI (e + 1))) fa := by
  obtain ⟨j, h1, h2, h3⟩ := h
  refine ⟨j, by omega, fun q x hq hx => ?_, fun x hx => ?_⟩
  · have hq' : x ≠ c := fun w => by subst w; have := hB.2.2 q p x hx hc; omega
    rw [upd_ne _ _ hq']; exact h2 q x hq hx
  · obtain ⟨a, b, ha, hb, e1, e2, e3⟩ := h3 x hx
    by_cases hq' : x = c
    · subst hq'
      have hjp := hB.2.2 j p x hx hc
      have hae : a = e := by rw [ht] at e1; exact ((nI_inj (by omega) (by omega)).mp e1).symm
      exact ⟨e + 1, b, by omega, hb, upd_eq _ _ _, e2, Or.inl (by omega)⟩
    · have hjp : j ≠ p := fun w => by subst w; rw [hc] at hx; cases hx; exact hq' rfl
      refine ⟨a, b, ha, hb, by rw [upd_ne _ _ hq']; exact e1, e2, ?_⟩
      rcases e3 with e3 | ⟨e3, -⟩
      · exact Or.inl e3
      · exact absurd e3 hjp
theorem HD_down {B : List Nat} {f td fi mdi fa : Nat → Int32} {p c : Nat} (hB : BOK B) (hst : ST B f (p + 1) td fi mdi) (h : HD B (p + 1) td fa) (hc : B[p + 1]? = some c) : HD B p (upd td c 0) fa := by
  obtain ⟨j, h1, h2, h3⟩ := h
  have hk : ∀ q x : Nat, q < p + 1 → B[q]? = some x → upd td c 0 x = td x := fun q x hq hx => by
    have hq' : x ≠ c := fun w => by subst w; have := hB.2.2 q (p + 1) x hx hc; omega
    rw [upd_ne _ _ hq']
  by_cases hj : j ≤ p
  · refine ⟨j, hj, fun q x hq hx => by rw [hk q x (by omega) hx]; exact h2 q x hq hx, fun x hx => ?_⟩
    obtain ⟨a, b, ha, hb, e1, e2, e3⟩ := h3 x hx
    refine ⟨a, b, ha, hb, by rw [hk j x (by omega) hx]; exact e1, e2, ?_⟩
    rcases e3 with e3 | ⟨e3, -⟩
    · exact Or.inl e3
    · omega
  · refine ⟨p, Nat.le_refl _, fun q x hq hx => by rw [hk q x (by omega) hx]; exact h2 q x (by omega) hx, fun x hx => ?_⟩
    obtain ⟨a, ha, e1⟩ := hst.2.2.1 p x hx
    exact ⟨a, a, ha, ha, by rw [hk p x (by omega) hx]; exact e1, by rw [← h2 p x (by omega) hx]; exact e1, Or.inr ⟨rfl, Nat.le_refl _⟩⟩
theorem unl_congr {D E : Nat → Int32} {c : Nat} {d : Int32} {a s : Nat} : ∀ (k j : Nat), (∀ i, j ≤ i → i < j + k → D (a + i * s) = E (a + i * s)) → unl D c d a s k j = unl E c d a s k j
  | 0, _, _ => rfl
  | k + 1, j, h => by rw [unl.eq_2, unl.eq_2, h j (Nat.le_refl _) (by omega), unl_congr k (j + 1) (fun i h1 h2 => h i (by omega) (by omega))]
theorem fld_congr {D E : Nat → Int32} {c a s : Nat} : ∀ (k j : Nat), (∀ i, j ≤ i → i < j + k → D (a + i * s) = E (a + i * s)) → fld D c a s k j = fld E c a s k j
  | 0, _, _ => rfl
  | k + 1, j, h => by rw [fld.eq_2, fld.eq_2, h j (Nat.le_refl _) (by omega), fld_congr k (j + 1) (fun i h1 h2 => h i (by omega) (by omega))]
theorem gAll_congr {rs : Rn} {su su' D E : Nat → Int32} {c : Nat} {d : Int32} (h1 : ∀ r, r < rs.length → su r = su' r) (h2 : ∀ (r : Nat) (t : Nat × Nat × Nat), rs[r]? = some t → ∀ j, j < t.2.2 → D (t.1 + j * t.2.1) = E (t.1 + j * t.2.1)) : ∀ (k i : Nat), i + k = rs.length → gAll rs su D c d k i = gAll rs su' E c d k i
  | 0, _, _ => rfl
  | k + 1, i, hi => by
    rw [gAll.eq_2, gAll.eq_2, gAll_congr h1 h2 k (i + 1) (by omega)]
    cases hr : rs[i]? with
    | none => rfl
    | some t =>
      simp only [rok]
      rw [unl_congr (E := E) t.2.2 0 (fun j _ hj => h2 i t hr j (by omega)), tot_congr (E := E) t.2.2 0 0 (fun j _ hj => h2 i t hr j (by omega)), fld_congr (E := E) t.2.2 0 (fun j _ hj => h2 i t hr j (by omega)), h1 i (by omega)]
theorem jn_p {α β : Type} (f : α) (k : α → β) : jn f k = k f := Eq.trans (Eq.refl (jn f k)) (Eq.refl (k f))
section TRY
variable {sz : Nat} {mba : Nat → Int32} {rs : Rn} {rc mrn bc mmy : Int32} {fs st ln rr cr mfi mst mle su msu bl mtr f : Nat → Int32} {B : List Nat}
theorem tryNext_eq (h : RT rs rc fs st ln) (hR : RRel rs rr cr) (hV : VR sz mba rs) {N c e : Nat} (hN : 16 < N) (hc : c < 16) (td fi : Nat → Int32) (he : e ≤ 8) (ht : td c = nI e) (hD : ∀ x, x < 16 → ∃ e : Nat, e ≤ 9 ∧ fi x = nI e) :
    f_X2_tryNext N fs st ln su rr cr td fi (nI c) = some (b01 (gAll rs su (upd fi c 0) c (nI (e + 1)) rs.length 0), upd td c (nI (e + 1)), if gAll rs su (upd fi c 0) c (nI (e + 1)) rs.length 0 = true then upd fi c (nI (e + 1)) else upd fi c 0) := by
  have hD1 : ∀ x, x < 16 → ∃ e : Nat, e ≤ 9 ∧ upd fi c 0 x = nI e := fun x hx => by
    by_cases hq : x = c
    · rw [hq, upd_eq]; exact ⟨0, by omega, rfl⟩
    · rw [upd_ne _ _ hq]; exact hD x hx
  obtain ⟨b1, b2, e1, e2, e3⟩ := two_eq h hR hV hN hc su (upd fi c 0) (nI (e + 1)) (upd_eq _ _ _) (fun q => by have := (nI_zero (d := e + 1) (by omega)).mp q; omega) hD1
  rw [← e3]
  simp only [f_X2_tryNext, f_X0_rowRunOf, f_X0_columnRunOf, at_in _ (show 16 < 2 ^ 31 by decide) hc, put_in _ _ (show 16 < 2 ^ 31 by decide) hc, ht, nI_1, e1, e2, Option.bind_some, upd_upd]
  cases b1 <;> cases b2 <;> rfl
theorem att_end {N mo fnd n : Nat} (kk : _) (T e mdf : Int32) (mdi mfa : Nat → Int32) : f_X4_attempt_L44 N (nI mo) mrn mmy 0 mfi mle mst msu mtr kk (n + 1) (nI fnd) T (-1) e mdf mdi mfa = some (nI fnd, mmy, mdf, 0, mtr, mdi, mfa) := by
  rw [f_X4_attempt_L44.eq_2, if_pos (by decide)]
theorem att_most {N mo n p : Nat} (hp : p < 16) (kk : _) (T e mdf : Int32) (mdi mfa : Nat → Int32) : f_X4_attempt_L44 N (nI mo) mrn mmy 0 mfi mle mst msu mtr kk (n + 1) (nI mo) T (nI p) e mdf mdi mfa = some (nI mo, mmy, mdf, 0, mtr, mdi, mfa) := by
  rw [f_X4_attempt_L44.eq_2, if_neg (nI_pos (by omega)), if_pos (Int32.le_refl _)]
theorem att_9z {N mo fnd n c e : Nat} (hmo : fnd < mo) (hmo5 : mo ≤ 5) (kk : _) (T mdf : Int32) (mdi mfa : Nat → Int32) (hc : mtr 0 = nI c) (hc16 : c < 16) (he : e = 9) : f_X4_attempt_L44 N (nI mo) mrn mmy 0 mfi mle mst msu mtr kk (n + 1) (nI fnd) T (nI 0) (nI e) mdf mdi mfa = f_X4_attempt_L44 N (nI mo) mrn mmy 0 mfi mle mst msu mtr kk n (nI fnd) T (-1) 0 mdf (upd mdi c 0) mfa := by
  have h10 : ¬ nI e + 1 ≤ 9 := by rw [he]; decide
  have hin : inR (nI c) 16 := inR_in (by decide) hc16
  have hin0 : inR (nI 0) 16 := inR_in (by decide) (by omega)
  have hge : ¬ nI mo ≤ nI fnd := nI_ge hmo (by omega)
  have h0 : ¬ nI 0 < 0 := nI_pos (by omega)
  have hm1 : nI 0 + (-1) = -1 := by decide
  have hm2 : (-1 : Int32) < 0 := by decide
  rw [f_X4_attempt_L44.eq_2, if_neg h0, if_neg hge, gd_t hin0]
  simp only [nI_clamp (show 0 < 2 ^ 31 by omega), hc, nI_clamp (show c < 2 ^ 31 by omega), jn_p]
  rw [gd_t hin, if_neg h10, hm1, if_pos hm2]
theorem att_9s {N mo fnd n P p c c' e : Nat} (hP : P = p + 1) (hmo : fnd < mo) (hmo5 : mo ≤ 5) (kk : _) (T mdf : Int32) (mdi mfa : Nat → Int32) (hp : P < 16) (hc : mtr P = nI c) (hc16 : c < 16) (hc' : mtr p = nI c') (hc16' : c' < 16) (he : e = 9) : f_X4_attempt_L44 N (nI mo) mrn mmy 0 mfi mle mst msu mtr kk (n + 1) (nI fnd) T (nI P) (nI e) mdf mdi mfa = f_X4_attempt_L44 N (nI mo) mrn mmy 0 mfi mle mst msu mtr kk n (nI fnd) T (nI p) (upd mdi c 0 c') mdf (upd mdi c 0) mfa := by
  have h10 : ¬ nI e + 1 ≤ 9 := by rw [he]; decide
  have hin : inR (nI c) 16 := inR_in (by decide) hc16
  have hin' : inR (nI c') 16 := inR_in (by decide) hc16'
  have hin0 : inR (nI P) 16 := inR_in (by decide) hp
  have hin1 : inR (nI p) 16 := inR_in (by decide) (by omega)
  have hge : ¬ nI mo ≤ nI fnd := nI_ge hmo (by omega)
  have h0 : ¬ nI P < 0 := nI_pos (by omega)
  have h1 : ¬ nI p < 0 := nI_pos (by omega)
  have hless : nI P + (-1) = nI p := by rw [hP]; exact nI_less p
  have hclP : (nI P).toNatClampNeg = P := nI_clamp (by omega)
  have hclp : (nI p).toNatClampNeg = p := nI_clamp (by omega)
  clear hP
  rw [f_X4_attempt_L44.eq_2, if_neg h0, if_neg hge, gd_t hin0]
  simp only [hclP, hc, nI_clamp (show c < 2 ^ 31 by omega), jn_p]
  have hqq : mtr (nI p).toNatClampNeg = nI c' := by rw [hclp, hc']
  have hin2 : inR (mtr (nI p).toNatClampNeg) 16 := by rw [hqq]; exact hin'
  rw [gd_t hin, if_neg h10, hless, if_neg h1, gd_t hin1, gd_t hin2, hqq, nI_clamp (show c' < 2 ^ 31 by omega)]
theorem back_L (hB : BOK B) (hb1 : BL B bc bl) (hb2 : BL B mmy mtr) {N mo fnd : Nat} (hmo : fnd < mo) (hmo5 : mo ≤ 5) (kk : _) (T mdf : Int32) (fa mfa : Nat → Int32) : ∀ (p n nm e : Nat) (td fi mdi : Nat → Int32), p + 1 < n → p + 2 < nm → p < B.length → e ≤ 9 → ST B f p td fi mdi → (∀ c, B[p]? = some c → td c = nI e) →
    (∃ (p' e' nm' : Nat) (td' fi' mdi' : Nat → Int32), p' ≤ p ∧ e' ≤ 8 ∧ nm' + p = nm + p' ∧ f_X2_backFrom_L2 bl n (nI p) td fi = some (nI p', td', fi') ∧ f_X4_attempt_L44 N (nI mo) mrn mmy 0 mfi mle mst msu mtr kk nm (nI fnd) T (nI p) (nI e) mdf mdi mfa = f_X4_attempt_L44 N (nI mo) mrn mmy 0 mfi mle mst msu mtr kk nm' (nI fnd) T (nI p') (nI e') mdf mdi' mfa ∧ ST B f p' td' fi' mdi' ∧ (∀ c, B[p']? = some c → td' c = nI e') ∧ (HD B p td fa → HD B p' td' fa)) ∨
    ∃ td' fi' mdi' : Nat → Int32, f_X2_backFrom_L2 bl n (nI p) td fi = some (-1, td', fi') ∧ f_X4_attempt_L44 N (nI mo) mrn mmy 0 mfi mle mst msu mtr kk nm (nI fnd) T (nI p) (nI e) mdf mdi mfa = some (nI fnd, mmy, mdf, 0, mtr, mdi', mfa) := by
  intro p
  induction p with
  | zero =>
    intro n nm e td fi mdi hn hnm hp he hst htd
    obtain ⟨c, hc⟩ : ∃ c, B[0]? = some c := ⟨_, List.getElem?_eq_getElem hp⟩
    have hc16 := hB.2.1 c (List.mem_of_getElem? hc)
    have htc := htd c hc
    obtain ⟨m, rfl⟩ : ∃ m, n = m + 1 + 1 := ⟨n - 2, by omega⟩
    obtain ⟨mm, rfl⟩ : ∃ mm, nm = mm + 1 + 1 := ⟨nm - 2, by omega⟩
    rw [f_X2_backFrom_L2.eq_2, if_neg (nI_pos (by omega)), at_in bl (by decide) (by omega), hb1.2 0 c hc, at_in td (by decide) hc16, htc]
    by_cases h9 : e ≤ 8
    · refine Or.inl ⟨0, e, mm + 1 + 1, td, fi, mdi, Nat.le_refl _, h9, rfl, ?_, rfl, hst, htd, id⟩
      rw [if_pos (show nI e < (9 : Int32) from nI_lt (b := 9) (by omega) (by omega))]
    · refine Or.inr ⟨upd td c 0, upd fi c 0, upd mdi c 0, ?_, ?_⟩
      · rw [if_neg (show ¬ nI e < (9 : Int32) from nI_nlt (b := 9) (by omega) (by omega)), show nI 0 + (-1) = -1 from by decide, put_in _ _ (by decide) hc16, put_in _ _ (by decide) hc16, f_X2_backFrom_L2.eq_2, if_pos (by decide)]
      · rw [att_9z hmo hmo5 kk T mdf mdi mfa (hb2.2 0 c hc) hc16 (by omega), att_end]
  | succ p ih =>
    intro n nm e td fi mdi hn hnm hp he hst htd
    obtain ⟨c, hc⟩ : ∃ c, B[p + 1]? = some c := ⟨_, List.getElem?_eq_getElem hp⟩
    have hc16 := hB.2.1 c (List.mem_of_getElem? hc)
    have htc := htd c hc
    obtain ⟨c', hc'⟩ : ∃ c, B[p]? = some c := ⟨_, List.getElem?_eq_getElem (by omega)⟩
    have hc16' := hB.2.1 c' (List.mem_of_getElem? hc')
    have hcc : c' ≠ c := fun w => by subst w; have := hB.2.2 _ _ _ hc hc'; omega
    have hl := hB.1
    obtain ⟨m, rfl⟩ : ∃ m, n = m + 1 := ⟨n - 1, by omega⟩
    obtain ⟨mm, rfl⟩ : ∃ mm, nm = mm + 1 := ⟨nm - 1, by omega⟩
    rw [f_X2_backFrom_L2.eq_2, if_neg (nI_pos (by omega)), at_in bl (by decide) (by omega), hb1.2 _ c hc, at_in td (by decide) hc16, htc]
    by_cases h9 : e ≤ 8
    · refine Or.inl ⟨p + 1, e, mm + 1, td, fi, mdi, Nat.le_refl _, h9, rfl, ?_, rfl, hst, htd, id⟩
      rw [if_pos (show nI e < (9 : Int32) from nI_lt (b := 9) (by omega) (by omega))]
    · have hst0 : ST B f (p + 1) (upd td c 0) (upd fi c 0) (upd mdi c 0) := ST_put (e := 0) (v := 0) hB hst hc (by omega) (by omega)
      have hst1 : ST B f p (upd td c 0) (upd fi c 0) (upd mdi c 0) := ST_down hst0 hc (upd_eq _ _ _) hB
      obtain ⟨e', he', htd'⟩ := hst1.2.2.1 p c' hc'
      have hv5 : upd mdi c 0 c' = nI e' := by
        rw [← (hst1.1 c' hc16').1, ← hst0.2.2.2.1 p c' (by omega) hc', htd']
      have hm : f_X4_attempt_L44 N (nI mo) mrn mmy 0 mfi mle mst msu mtr kk (mm + 1) (nI fnd) T (nI (p + 1)) (nI e) mdf mdi mfa = f_X4_attempt_L44 N (nI mo) mrn mmy 0 mfi mle mst msu mtr kk mm (nI fnd) T (nI p) (nI e') mdf (upd mdi c 0) mfa := by
        rw [att_9s rfl hmo hmo5 kk T mdf mdi mfa (by omega) (hb2.2 _ c hc) hc16 (hb2.2 _ c' hc') hc16' (by omega), hv5]
      rw [if_neg (show ¬ nI e < (9 : Int32) from nI_nlt (b := 9) (by omega) (by omega)), nI_less, put_in _ _ (by decide) hc16, put_in _ _ (by decide) hc16, hm]
      rcases ih m mm e' (upd td c 0) (upd fi c 0) (upd mdi c 0) (by omega) (by omega) (by omega) he' hst1 (fun x hx => by rw [hc'] at hx; cases hx; exact htd') with ⟨p', e2, nm', td', fi', mdi', q1, q2, q3, q4, q5, q6, q7, q8⟩ | hb
      · exact Or.inl ⟨p', e2, nm', td', fi', mdi', by omega, q2, by omega, q4, q5, q6, q7, fun hh => q8 (HD_down hB hst hh hc)⟩
      · exact Or.inr hb
end TRY
