/-! the trying: both sides end alike -/
def UNL (B : List Nat) (fi fa mfa : Nat → Int32) (mdf : Int32) : Prop := ∃ u : Nat, u < 16 ∧ u ∈ B ∧ (∃ e : Nat, e ≤ 9 ∧ fa u = nI e) ∧ fa u = mfa u ∧ ¬ fa u = fi u ∧ (∀ c, c < u → fa c = fi c) ∧ mdf = nI u
def RES (B : List Nat) (mo : Nat) (bc : Int32) (bl : Nat → Int32) (mmy : Int32) (mtr : Nat → Int32) (x : Option (Int32 × Int32 × (Nat → Int32) × (Nat → Int32) × (Nat → Int32) × (Nat → Int32))) (y : Option (Int32 × Int32 × Int32 × Int32 × (Nat → Int32) × (Nat → Int32) × (Nat → Int32))) : Prop :=
  ∃ (ret : Int32) (td fi fa : Nat → Int32) (mdf mgu : Int32) (mdi mfa : Nat → Int32), x = some (ret, bc, bl, td, fi, fa) ∧ y = some (ret, mmy, mdf, mgu, mtr, mdi, mfa) ∧
    ((mgu = 1 ∧ ret = -1) ∨ (mgu = 0 ∧ ∃ v : Nat, v ≤ mo ∧ ret = nI v)) ∧ (ret = nI 2 → mo = 2 → UNL B fi fa mfa mdf)
section LOCK
variable {sz : Nat} {mba : Nat → Int32} {rs : Rn} {rc mrn bc mmy : Int32} {fs st ln rr cr mfi mst mle su msu bl mtr f : Nat → Int32} {B : List Nat}
theorem backFrom_neg {N mo fnd n : Nat} {T : Int32} {p td fi fa td' fi'} (e : f_X2_backFrom N bl td fi p = some (-1, td', fi')) : aft N (nI mo) rc fs st ln su rr cr bc bl n (nI fnd) p T td fi fa = some (nI fnd, bc, bl, td', fi', fa) := by
  rw [aft, e]
  simp only [Option.bind_some]
  rw [if_neg (by decide)]
theorem backFrom_pos {N mo fnd n p' : Nat} (hp : p' < 16) {T : Int32} {p td fi fa td' fi'} (e : f_X2_backFrom N bl td fi p = some (nI p', td', fi')) : aft N (nI mo) rc fs st ln su rr cr bc bl n (nI fnd) p T td fi fa = f_X2_find_L38 N (nI mo) rc fs st ln su rr cr bc bl n (nI fnd) (nI p') T td' fi' fa := by
  rw [aft, e]
  simp only [Option.bind_some]
  rw [if_pos (show (0 : Int32) ≤ nI p' from nI_le (a := 0) (by omega) (by omega))]
theorem lock (h1 : RT rs rc fs st ln) (h2 : RT rs mrn mfi mst mle) (hR : RRel rs rr cr) (hV : VR sz mba rs) (hsu : ∀ r, r < rs.length → su r = msu r) {N mo : Nat} (hN : 64 < N) (hB : BOK B) (hb1 : BL B bc bl) (hb2 : BL B mmy mtr) (hmo5 : mo ≤ 5) :
    ∀ (k tr fnd p e n nm : Nat) (td fi fa mdi mfa : Nat → Int32) (mdf : Int32), tr + k = 20000 → k < n → 2 * k + p + 5 < nm → fnd < mo → p < B.length → e ≤ 8 → ST B f p td fi mdi → (∀ c, B[p]? = some c → td c = nI e) → (1 ≤ fnd → FA B f p td fa mfa) →
      RES B mo bc bl mmy mtr (f_X2_find_L38 N (nI mo) rc fs st ln su rr cr bc bl n (nI fnd) (nI p) (nI tr) td fi fa) (f_X4_attempt_L44 N (nI mo) mrn mmy 0 mfi mle mst msu mtr (fun a b c => some (-1, mmy, a, 1, mtr, b, c)) nm (nI fnd) (nI tr) (nI p) (nI e) mdf mdi mfa) := by
  intro k
  induction k with
  | zero =>
    intro tr fnd p e n nm td fi fa mdi mfa mdf hk hn hnm hf hp he hst htd hfa
    obtain ⟨m, rfl⟩ : ∃ m, n = m + 1 := ⟨n - 1, by omega⟩
    obtain ⟨mm, rfl⟩ : ∃ mm, nm = mm + 1 := ⟨nm - 1, by omega⟩
    obtain rfl : tr = 20000 := by omega
    obtain ⟨c, hc⟩ : ∃ c, B[p]? = some c := ⟨_, List.getElem?_eq_getElem hp⟩
    rw [find_up, att_up hB hb2 hf hmo5 _ mdf mdi mfa hc he]
    exact ⟨-1, td, fi, fa, mdf, 1, _, mfa, rfl, rfl, Or.inl ⟨rfl, rfl⟩, fun q => absurd q.symm (nI_nneg1 (by omega))⟩
  | succ k ih =>
    intro tr fnd p e n nm td fi fa mdi mfa mdf hk hn hnm hf hp he hst htd hfa
    obtain ⟨m, rfl⟩ : ∃ m, n = m + 1 := ⟨n - 1, by omega⟩
    obtain ⟨mm, rfl⟩ : ∃ mm, nm = mm + 1 := ⟨nm - 1, by omega⟩
    have hl := hB.1
    have after : ∀ (fnd' p1 e1 : Nat) (td1 fi1 fa1 mdi1 mfa1 : Nat → Int32) (mdf1 : Int32), fnd' < mo → p1 ≤ p + 1 → p1 < B.length → e1 ≤ 9 → ST B f p1 td1 fi1 mdi1 → (∀ c, B[p1]? = some c → td1 c = nI e1) → (1 ≤ fnd' → FA B f p1 td1 fa1 mfa1) →
        RES B mo bc bl mmy mtr (aft N (nI mo) rc fs st ln su rr cr bc bl m (nI fnd') (nI p1) (nI (tr + 1)) td1 fi1 fa1) (f_X4_attempt_L44 N (nI mo) mrn mmy 0 mfi mle mst msu mtr (fun a b c => some (-1, mmy, a, 1, mtr, b, c)) mm (nI fnd') (nI (tr + 1)) (nI p1) (nI e1) mdf1 mdi1 mfa1) := by
      intro fnd' p1 e1 td1 fi1 fa1 mdi1 mfa1 mdf1 hf' hp1 hp1l he1 hst1 htd1 hfa1
      rcases back_L hB hb1 hb2 hf' hmo5 (fun a b c => some (-1, mmy, a, 1, mtr, b, c)) (nI (tr + 1)) mdf1 fa1 mfa1 p1 N mm e1 td1 fi1 mdi1 (by omega) (by omega) hp1l he1 hst1 htd1 with ⟨p', e', nm', td', fi', mdi', q1, q2, q3, q4, q5, q6, q7, q8⟩ | ⟨td', fi', mdi', q1, q2⟩
      · rw [backFrom_pos (show p' < 16 by omega) (by rw [f_X2_backFrom]; exact q4), q5]
        refine ih (tr + 1) fnd' p' e' m nm' td' fi' fa1 mdi' mfa1 mdf1 (by omega) (by omega) (by omega) hf' (by omega) q2 q6 q7 (fun w => ?_)
        obtain ⟨w1, w2, w3⟩ := hfa1 w
        exact ⟨w1, w2, q8 w3⟩
      · rw [backFrom_neg (by rw [f_X2_backFrom]; exact q1), q2]
        refine ⟨nI fnd', td', fi', fa1, mdf1, 0, mdi', mfa1, rfl, rfl, Or.inr ⟨rfl, fnd', by omega, rfl⟩, fun q => ?_⟩
        have := (nI_inj (by omega) (by omega)).mp q
        omega
    obtain ⟨c, hc⟩ : ∃ c, B[p]? = some c := ⟨_, List.getElem?_eq_getElem hp⟩
    have hcB := List.mem_of_getElem? hc
    have hc16 := hB.2.1 c hcB
    have hD := fun x hx => (hst.1 x hx).2
    have hcell : ∀ (r : Nat) (t : Nat × Nat × Nat), rs[r]? = some t → ∀ j, j < t.2.2 → t.1 + j * t.2.1 < 16 := fun r t hr j hj => ((hV.at hr).2.2.2 j hj).2
    have hfm : ∀ v x : Int32, ∀ y, y < 16 → upd fi c v y = upd mdi c v y := fun v x y hy => by
      by_cases hq : y = c
      · rw [hq, upd_eq, upd_eq]
      · rw [upd_ne _ _ hq, upd_ne _ _ hq]; exact (hst.1 y hy).1
    have hG : gAll rs msu (upd mdi c 0) c (nI (e + 1)) rs.length 0 = gAll rs su (upd fi c 0) c (nI (e + 1)) rs.length 0 :=
      (gAll_congr hsu (fun r t hr j hj => hfm 0 0 _ (hcell r t hr j hj)) rs.length 0 (by omega)).symm
    have hA : ansN rs msu (upd mdi c (nI (e + 1))) rs.length 0 = ansN rs su (upd fi c (nI (e + 1))) rs.length 0 :=
      (ansN_congr hsu (fun r t hr j hj => hfm _ 0 _ (hcell r t hr j hj)) rs.length 0 (by omega)).symm
    rw [find_try h1 hR hV (by omega) hB hb1 hf hmo5 td fi fa hc he (by omega) (htd c hc) hD, att_try h2 hV (by omega) hB hb2 hf hmo5 _ mdf mdi mfa hc he (by omega), hG, hA]
    have hst0 : ST B f p (upd td c (nI (e + 1))) (upd fi c 0) (upd mdi c 0) := ST_put (v := 0) hB hst hc (by omega) (by omega)
    have hst1 : ST B f p (upd td c (nI (e + 1))) (upd fi c (nI (e + 1))) (upd mdi c (nI (e + 1))) := ST_put hB hst hc (by omega) (by omega)
    have htd1 : ∀ x, B[p]? = some x → upd td c (nI (e + 1)) x = nI (e + 1) := fun x hx => by rw [hc] at hx; cases hx; exact upd_eq _ _ _
    have hfa1 : ∀ p', p ≤ p' → 1 ≤ fnd → FA B f p' (upd td c (nI (e + 1))) fa mfa := fun p' hp' w => by
      obtain ⟨w1, w2, w3⟩ := hfa w
      exact ⟨w1, w2, HD_try hB w3 hc he (htd c hc) p' hp'⟩
    by_cases g1 : gAll rs su (upd fi c 0) c (nI (e + 1)) rs.length 0 = true
    · rw [if_pos g1, if_pos g1]
      by_cases g2 : p + 1 < B.length
      · rw [if_pos g2, if_pos g2]
        obtain ⟨c', hc'⟩ : ∃ c, B[p + 1]? = some c := ⟨_, List.getElem?_eq_getElem g2⟩
        refine after fnd (p + 1) 0 _ _ _ _ _ _ hf (Nat.le_refl _) g2 (by omega) ?_ ?_ (hfa1 (p + 1) (by omega))
        · obtain ⟨s1, s2, s3, s4, s5⟩ := hst1
          refine ⟨s1, s2, s3, fun q x hq hx => ?_, fun q x hq hx => s5 q x (by omega) hx⟩
          by_cases hqp : q = p
          · subst hqp; rw [hc] at hx; cases hx; rw [upd_eq, upd_eq]
          · exact s4 q x (by omega) hx
        · intro x hx
          exact hst1.2.2.2.2 (p + 1) x (by omega) hx
      · rw [if_neg g2, if_neg g2]
        by_cases g3 : ansN rs su (upd fi c (nI (e + 1))) rs.length 0 = true
        · rw [if_pos g3, if_pos g3]
          by_cases g4 : fnd = 0
          · subst g4
            obtain ⟨fa', k1, k2⟩ := keepC_eq (upd fi c (nI (e + 1))) fa (N := N) (by omega)
            obtain ⟨mfa', k3, k4⟩ := keep1_eq mdf (upd mdi c (nI (e + 1))) mfa (N := N) (by omega)
            rw [if_pos rfl, k1, show nI (0 + 1) = (1 : Int32) from rfl, k3]
            simp only [Option.bind_some]
            rw [show (1 : Int32) = nI 1 from rfl]
            by_cases g5 : 0 + 1 < mo
            · rw [if_pos g5]
              refine after 1 p (e + 1) _ _ _ _ _ _ g5 (by omega) hp (by omega) hst1 htd1 (fun _ => ⟨fun x hx => ?_, fun x hx hxB => ?_, p, Nat.le_refl _, fun q x hq hx => ?_, fun x hx => ?_⟩)
              · rw [k2 x hx, k4 x hx]; exact hst1.1 x hx
              · rw [k2 x hx]; exact hst1.2.1 x hx hxB
              · rw [k2 x (hB.2.1 x (List.mem_of_getElem? hx))]; exact hst1.2.2.2.1 q x hq hx
              · rw [hc] at hx; cases hx
                exact ⟨e + 1, e + 1, by omega, by omega, upd_eq _ _ _, by rw [k2 c hc16, upd_eq], Or.inr ⟨rfl, Nat.le_refl _⟩⟩
            · obtain rfl : mo = 1 := by omega
              obtain ⟨m3, rfl⟩ : ∃ m3, mm = m3 + 1 := ⟨mm - 1, by omega⟩
              rw [if_neg g5, att_most (by omega)]
              exact ⟨nI 1, _, _, _, _, 0, _, _, rfl, rfl, Or.inr ⟨rfl, 1, by omega, rfl⟩, fun _ q => by omega⟩
          · rw [if_neg g4]
            simp only [Option.bind_some]
            have w := hfa (by omega)
            by_cases g6 : fnd = 1
            · subst g6
              obtain ⟨mdf', k1, k2⟩ := keep2_eq mdf (upd mdi c (nI (e + 1))) mfa (N := N) (by omega)
              rw [show nI (1 + 1) = (2 : Int32) from rfl, k1]
              simp only [Option.bind_some]
              rw [show (2 : Int32) = nI 2 from rfl]
              by_cases g5 : 1 + 1 < mo
              · rw [if_pos g5]
                exact after 2 p (e + 1) _ _ _ _ _ _ g5 (by omega) hp (by omega) hst1 htd1 (fun _ => hfa1 p (Nat.le_refl _) (by omega))
              · obtain rfl : mo = 2 := by omega
                obtain ⟨m3, rfl⟩ : ∃ m3, mm = m3 + 1 := ⟨mm - 1, by omega⟩
                rw [if_neg g5, att_most (by omega)]
                refine ⟨nI 2, _, _, _, _, 0, _, _, rfl, rfl, Or.inr ⟨rfl, 2, by omega, rfl⟩, fun _ _ => ?_⟩
                have hne : ¬ ∀ x, x < 16 → upd mdi c (nI (e + 1)) x = mfa x := by
                  intro hall
                  obtain ⟨w1, w2, j, w3, w4, w5⟩ := w
                  obtain ⟨cj, hcj⟩ : ∃ c, B[j]? = some c := ⟨_, List.getElem?_eq_getElem (by omega)⟩
                  obtain ⟨a, b, ha, hb, e1, e2, e3⟩ := w5 cj hcj
                  have hcj16 := hB.2.1 cj (List.mem_of_getElem? hcj)
                  have e4 := hall cj hcj16
                  rw [← (w1 cj hcj16).1, e2, ← hfm _ 0 cj hcj16] at e4
                  by_cases hjp : j = p
                  · subst hjp
                    rw [hc] at hcj; cases hcj
                    rw [upd_eq] at e4
                    have e5 := (nI_inj (by omega) (by omega)).mp e4
                    have e6 : a = e := by rw [htd c hc] at e1; exact ((nI_inj (by omega) (by omega)).mp e1).symm
                    omega
                  · have hcc : cj ≠ c := fun q => by subst q; exact hjp (hB.2.2 _ _ _ hcj hc)
                    rw [upd_ne _ _ hcc, ← hst.2.2.2.1 j cj (by omega) hcj, e1] at e4
                    have e5 := (nI_inj (by omega) (by omega)).mp e4
                    omega
                rcases k2 with k2 | ⟨u, u1, u2, u3, u4⟩
                · exact absurd k2 hne
                · have hmu := (w.1 u u1).1
                  have hfu := hfm (nI (e + 1)) 0 u u1
                  refine ⟨u, u1, ?_, (w.1 u u1).2, hmu, ?_, fun x hx => ?_, u4⟩
                  · refine Decidable.byContradiction fun huB => u2 ?_
                    rw [← hfu, ← hmu, hst1.2.1 u u1 huB, w.2.1 u u1 huB]
                  · intro q
                    exact u2 (by rw [← hfu, ← hmu, q])
                  · rw [hfm (nI (e + 1)) 0 x (by omega), u3 x hx]
                    exact (w.1 x (by omega)).1
            · have hx1 : nI (fnd + 1) ≠ 1 := fun q => by have := (nI_inj (a := fnd + 1) (b := 1) (by omega) (by omega)).mp q; omega
              have hx2 : nI (fnd + 1) ≠ 2 := fun q => by have := (nI_inj (a := fnd + 1) (b := 2) (by omega) (by omega)).mp q; omega
              rw [keep3_eq _ _ _ _ (by omega) hx1 hx2]
              simp only [Option.bind_some]
              by_cases g5 : fnd + 1 < mo
              · rw [if_pos g5]
                exact after (fnd + 1) p (e + 1) _ _ _ _ _ _ g5 (by omega) hp (by omega) hst1 htd1 (fun _ => hfa1 p (Nat.le_refl _) (by omega))
              · obtain rfl : mo = fnd + 1 := by omega
                obtain ⟨m3, rfl⟩ : ∃ m3, mm = m3 + 1 := ⟨mm - 1, by omega⟩
                rw [if_neg g5, att_most (by omega)]
                exact ⟨nI (fnd + 1), _, _, _, _, 0, _, _, rfl, rfl, Or.inr ⟨rfl, fnd + 1, by omega, rfl⟩, fun _ q => by omega⟩
        · rw [if_neg g3, if_neg g3]
          exact after fnd p (e + 1) _ _ _ _ _ _ hf (by omega) hp (by omega) hst1 htd1 (hfa1 p (Nat.le_refl _))
    · rw [if_neg g1, if_neg g1]
      exact after fnd p (e + 1) _ _ _ _ _ _ hf (by omega) hp (by omega) hst0 htd1 (hfa1 p (Nat.le_refl _))
end LOCK
