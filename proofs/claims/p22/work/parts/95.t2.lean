/-! trying finds as many answers as there are, up to those asked for -/
theorem mem_drop_iff {B : List Nat} {m x : Nat} : x ∈ B.drop m ↔ ∃ q, m ≤ q ∧ B[q]? = some x := by
  constructor
  · intro h
    obtain ⟨i, hi⟩ := List.mem_iff_getElem?.mp h
    rw [List.getElem?_drop] at hi
    exact ⟨m + i, by omega, hi⟩
  · rintro ⟨q, h1, h2⟩
    refine List.mem_iff_getElem?.mpr ⟨q - m, ?_⟩
    rw [List.getElem?_drop, show m + (q - m) = q by omega]
    exact h2
theorem drop_at {B : List Nat} {m c : Nat} (h : B[m]? = some c) : B.drop m = c :: B.drop (m + 1) := by
  obtain ⟨h1, h2⟩ := List.getElem?_eq_some_iff.mp h
  rw [List.drop_eq_getElem_cons h1, h2]
theorem nodup_of : ∀ (L : List Nat), (∀ q q' c : Nat, L[q]? = some c → L[q']? = some c → q = q') → L.Nodup
  | [], _ => List.nodup_nil
  | x :: L, h => by
    refine List.nodup_cons.mpr ⟨fun hm => ?_, nodup_of L fun q q' c h1 h2 => ?_⟩
    · obtain ⟨i, hi⟩ := List.mem_iff_getElem?.mp hm
      have := h 0 (i + 1) x (by simp) (by simpa using hi)
      omega
    · have := h (q + 1) (q' + 1) c (by simpa using h1) (by simpa using h2)
      omega
def Rem (A : (Nat → Int32) → Bool) (B : List Nat) (td fi : Nat → Int32) : Nat → Nat
  | 0 => 0
  | m + 1 => Rem A B td fi m + (match B[m]? with
    | some c => Sm (fun d => Cn A (B.drop (m + 1)) (upd fi c (nI d))) (9 - (td c).toNatClampNeg) (td c).toNatClampNeg
    | none => 0)
def Vt : Nat → Nat
  | 0 => 0
  | j + 1 => 1 + 9 * Vt j
def Need (B : List Nat) (td : Nat → Int32) : Nat → Nat
  | 0 => 0
  | m + 1 => Need B td m + (match B[m]? with
    | some c => (9 - (td c).toNatClampNeg) * Vt (B.length - m)
    | none => 0)
section FIND
variable {sz : Nat} {mba mgi g : Nat → Int32} {rs : Rn} {rc bc : Int32} {fs st ln rr cr su bl f : Nat → Int32} {B : List Nat} {A : (Nat → Int32) → Bool}
theorem Rem_succ {td fi : Nat → Int32} {m c e : Nat} (hc : B[m]? = some c) (ht : td c = nI e) (he : e ≤ 9) : Rem A B td fi (m + 1) = Rem A B td fi m + Sm (fun d => Cn A (B.drop (m + 1)) (upd fi c (nI d))) (9 - e) e := by
  have hcl : (nI e).toNatClampNeg = e := nI_clamp (by omega)
  rw [Rem, hc]
  simp only [ht, hcl]
theorem Need_succ {td : Nat → Int32} {m c e : Nat} (hc : B[m]? = some c) (ht : td c = nI e) (he : e ≤ 9) : Need B td (m + 1) = Need B td m + (9 - e) * Vt (B.length - m) := by
  have hcl : (nI e).toNatClampNeg = e := nI_clamp (by omega)
  rw [Need, hc]
  simp only [ht, hcl]
theorem Rem_congr (hA : okA A) {td td' fi fi' : Nat → Int32} {m' : Nat} (h2 : ∀ x, x < 16 → (∀ q, m' ≤ q → B[q]? ≠ some x) → fi x = fi' x) : ∀ m, m ≤ m' + 1 → (∀ q c : Nat, q < m → B[q]? = some c → td c = td' c) → Rem A B td fi m = Rem A B td' fi' m
  | 0, _, _ => rfl
  | m + 1, hm, h1 => by
    rw [Rem, Rem, Rem_congr hA h2 m (by omega) (fun q c hq => h1 q c (by omega))]
    congr 1
    cases hc : B[m]? with
    | none => rfl
    | some c =>
      simp only
      rw [h1 m c (by omega) hc]
      congr 1
      funext d
      refine Cn_congr hA _ _ _ fun x hx hxd => ?_
      by_cases hq : x = c
      · rw [hq, upd_eq, upd_eq]
      · rw [upd_ne _ _ hq, upd_ne _ _ hq]
        refine h2 x hx fun q hq1 hq2 => hxd (mem_drop_iff.mpr ⟨q, ?_, hq2⟩)
        by_cases hqm : q = m
        · subst hqm; rw [hc] at hq2; cases hq2; exact absurd rfl hq
        · omega
theorem Need_congr {td td' : Nat → Int32} : ∀ m, (∀ q c : Nat, q < m → B[q]? = some c → td c = td' c) → Need B td m = Need B td' m
  | 0, _ => rfl
  | m + 1, h => by
    rw [Need, Need, Need_congr m (fun q c hq => h q c (by omega))]
    congr 1
    cases hc : B[m]? with
    | none => rfl
    | some c => simp only; rw [h m c (by omega) hc]
def ZP (B : List Nat) (p : Nat) (fi : Nat → Int32) : Prop := (∀ q c : Nat, q < p → B[q]? = some c → fi c ≠ 0) ∧ ∀ q c : Nat, p < q → B[q]? = some c → fi c = 0
theorem back_C (hA : okA A) (hB : BOK B) (hb1 : BL B bc bl) : ∀ (p n e : Nat) (td fi : Nat → Int32), p + 1 < n → p < B.length → e ≤ 9 → ST B f p td fi fi → (∀ c, B[p]? = some c → td c = nI e) → ZP B p fi →
    (∃ (p' e' : Nat) (td' fi' : Nat → Int32), p' ≤ p ∧ e' ≤ 8 ∧ f_X2_backFrom_L2 bl n (nI p) td fi = some (nI p', td', fi') ∧ ST B f p' td' fi' fi' ∧ (∀ c, B[p']? = some c → td' c = nI e') ∧ ZP B p' fi' ∧ Rem A B td' fi' (p' + 1) = Rem A B td fi (p + 1) ∧ Need B td' (p' + 1) = Need B td (p + 1)) ∨
    ∃ td' fi' : Nat → Int32, f_X2_backFrom_L2 bl n (nI p) td fi = some (-1, td', fi') ∧ Rem A B td fi (p + 1) = 0 := by
  intro p
  induction p with
  | zero =>
    intro n e td fi hn hp he hst htd hz
    obtain ⟨c, hc⟩ : ∃ c, B[0]? = some c := ⟨_, List.getElem?_eq_getElem hp⟩
    have hc16 := hB.2.1 c (List.mem_of_getElem? hc)
    have htc := htd c hc
    obtain ⟨m, rfl⟩ : ∃ m, n = m + 1 + 1 := ⟨n - 2, by omega⟩
    rw [f_X2_backFrom_L2.eq_2, if_neg (nI_pos (by omega)), at_in bl (by decide) (by omega), hb1.2 0 c hc, at_in td (by decide) hc16, htc]
    by_cases h9 : e ≤ 8
    · refine Or.inl ⟨0, e, td, fi, Nat.le_refl _, h9, ?_, hst, htd, hz, rfl, rfl⟩
      rw [if_pos (show nI e < (9 : Int32) from nI_lt (b := 9) (by omega) (by omega))]
    · refine Or.inr ⟨upd td c 0, upd fi c 0, ?_, ?_⟩
      · rw [if_neg (show ¬ nI e < (9 : Int32) from nI_nlt (b := 9) (by omega) (by omega)), show nI 0 + (-1) = -1 from by decide, put_in _ _ (by decide) hc16, put_in _ _ (by decide) hc16, f_X2_backFrom_L2.eq_2, if_pos (by decide)]
      · have e9 : e = 9 := by omega
        subst e9
        rw [Rem_succ hc htc he]
        rfl
  | succ p ih =>
    intro n e td fi hn hp he hst htd hz
    obtain ⟨c, hc⟩ : ∃ c, B[p + 1]? = some c := ⟨_, List.getElem?_eq_getElem hp⟩
    have hc16 := hB.2.1 c (List.mem_of_getElem? hc)
    have htc := htd c hc
    obtain ⟨c', hc'⟩ : ∃ c, B[p]? = some c := ⟨_, List.getElem?_eq_getElem (by omega)⟩
    have hl := hB.1
    obtain ⟨m, rfl⟩ : ∃ m, n = m + 1 := ⟨n - 1, by omega⟩
    rw [f_X2_backFrom_L2.eq_2, if_neg (nI_pos (by omega)), at_in bl (by decide) (by omega), hb1.2 _ c hc, at_in td (by decide) hc16, htc]
    by_cases h9 : e ≤ 8
    · refine Or.inl ⟨p + 1, e, td, fi, Nat.le_refl _, h9, ?_, hst, htd, hz, rfl, rfl⟩
      rw [if_pos (show nI e < (9 : Int32) from nI_lt (b := 9) (by omega) (by omega))]
    · have e9 : e = 9 := by omega
      subst e9
      have hst0 : ST B f (p + 1) (upd td c 0) (upd fi c 0) (upd fi c 0) := ST_put (e := 0) (v := 0) hB hst hc (by omega) (by omega)
      have hst1 : ST B f p (upd td c 0) (upd fi c 0) (upd fi c 0) := ST_down hst0 hc (upd_eq _ _ _) hB
      obtain ⟨e', he', htd'⟩ := hst1.2.2.1 p c' hc'
      have hne : ∀ q x : Nat, q ≠ p + 1 → B[q]? = some x → x ≠ c := fun q x hq hx w => by subst w; exact hq (hB.2.2 _ _ _ hx hc)
      have hz1 : ZP B p (upd fi c 0) := by
        refine ⟨fun q x hq hx => ?_, fun q x hq hx => ?_⟩
        · rw [upd_ne _ _ (hne q x (by omega) hx)]; exact hz.1 q x (by omega) hx
        · by_cases hq1 : q = p + 1
          · subst hq1; rw [hc] at hx; cases hx; exact upd_eq _ _ _
          · rw [upd_ne _ _ (hne q x hq1 hx)]; exact hz.2 q x (by omega) hx
      have hR : Rem A B (upd td c 0) (upd fi c 0) (p + 1) = Rem A B td fi (p + 1 + 1) := by
        rw [Rem_succ hc htc he]
        refine Rem_congr hA (m' := p) (fun x hx hxd => ?_) (p + 1) (Nat.le_refl _) (fun q x hq hx => upd_ne _ _ (hne q x (by omega) hx))
        exact upd_ne _ _ (fun w => hxd (p + 1) (by omega) (by rw [w]; exact hc))
      have hN : Need B (upd td c 0) (p + 1) = Need B td (p + 1 + 1) := by
        rw [Need_succ hc htc he, Nat.sub_self, Nat.zero_mul, Nat.add_zero]
        exact Need_congr (p + 1) (fun q x hq hx => upd_ne _ _ (hne q x (by omega) hx))
      rw [if_neg (show ¬ nI 9 < (9 : Int32) from nI_nlt (a := 9) (b := 9) (by omega) (by omega)), nI_less, put_in _ _ (by decide) hc16, put_in _ _ (by decide) hc16]
      rcases ih m e' (upd td c 0) (upd fi c 0) (by omega) (by omega) he' hst1 (fun x hx => by rw [hc'] at hx; cases hx; exact htd') hz1 with ⟨p', e2, td', fi', q1, q2, q3, q4, q5, q6, q7, q8⟩ | ⟨td', fi', q1, q2⟩
      · exact Or.inl ⟨p', e2, td', fi', by omega, q2, q3, q4, q5, q6, q7.trans hR, q8.trans hN⟩
      · exact Or.inr ⟨td', fi', q1, by rw [← hR]; exact q2⟩
def ANSW (B : List Nat) (f : Nat → Int32) (A : (Nat → Int32) → Bool) (D : Nat → Int32) : Prop := (∀ x, x < 16 → x ∉ B → D x = f x) ∧ (∀ x, x ∈ B → ∃ v : Nat, 1 ≤ v ∧ v ≤ 9 ∧ D x = nI v) ∧ A D = true
theorem okA_ans (hV : VR sz mba rs) (su : Nat → Int32) : okA (fun D => ansN rs su D rs.length 0) := fun D E h =>
  ansN_congr (fun _ _ => rfl) (fun r t hr j hj => h _ ((hV.at hr).2.2.2 j hj).2) rs.length 0 (Nat.zero_add _)
theorem Vt_pos : ∀ j, 0 < j → 1 ≤ Vt j
  | 0, h => by omega
  | j + 1, _ => by rw [Vt]; omega
theorem try_eq (hA : okA A) (hB : BOK B) {td fi : Nat → Int32} {p c e : Nat} (hc : B[p]? = some c) (ht : td c = nI e) (he : e ≤ 8) (v : Int32) :
    Rem A B td fi (p + 1) = Cn A (B.drop (p + 1)) (upd fi c (nI (e + 1))) + Rem A B (upd td c (nI (e + 1))) (upd fi c v) (p + 1) ∧ Need B td (p + 1) = Vt (B.length - p) + Need B (upd td c (nI (e + 1))) (p + 1) := by
  have hne : ∀ q x : Nat, q ≠ p → B[q]? = some x → x ≠ c := fun q x hq hx w => by subst w; exact hq (hB.2.2 _ _ _ hx hc)
  constructor
  · rw [Rem_succ hc ht (by omega), Rem_succ (td := upd td c (nI (e + 1))) hc (upd_eq _ _ _) (show e + 1 ≤ 9 by omega)]
    have h1 : Rem A B (upd td c (nI (e + 1))) (upd fi c v) p = Rem A B td fi p :=
      Rem_congr hA (m' := p) (fun x hx hxd => upd_ne _ _ (fun w => hxd p (Nat.le_refl _) (by rw [w]; exact hc))) p (by omega) (fun q x hq hx => upd_ne _ _ (hne q x (by omega) hx))
    have h2 : (fun d => Cn A (B.drop (p + 1)) (upd (upd fi c v) c (nI d))) = fun d => Cn A (B.drop (p + 1)) (upd fi c (nI d)) := funext fun d => by rw [upd_upd]
    rw [h1, h2, show 9 - e = (9 - (e + 1)) + 1 by omega, Sm]
    omega
  · rw [Need_succ hc ht (by omega), Need_succ (td := upd td c (nI (e + 1))) hc (upd_eq _ _ _) (show e + 1 ≤ 9 by omega)]
    have h1 : Need B (upd td c (nI (e + 1))) p = Need B td p := Need_congr p (fun q x hq hx => upd_ne _ _ (hne q x (by omega) hx))
    rw [h1, show 9 - e = (9 - (e + 1)) + 1 by omega, Nat.succ_mul]
    omega
theorem down_eq {td fi : Nat → Int32} {p c : Nat} (hc : B[p + 1]? = some c) (ht : td c = 0) :
    Rem A B td fi (p + 1 + 1) = Rem A B td fi (p + 1) + Cn A (B.drop (p + 1)) fi ∧ Need B td (p + 1 + 1) = Need B td (p + 1) + 9 * Vt (B.length - (p + 1)) := by
  rw [Rem_succ (e := 0) hc ht (by omega), Need_succ (e := 0) hc ht (by omega), drop_at hc, Cn]
  exact ⟨rfl, rfl⟩
end FIND
