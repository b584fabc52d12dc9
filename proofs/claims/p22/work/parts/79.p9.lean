/-! the trying: one try on each side -/
def aft (N : Nat) (c1 rc : Int32) (fs st ln su rr cr : Nat → Int32) (bc : Int32) (bl : Nat → Int32) (n : Nat) (v2 v3 tr : Int32) (td fi fa : Nat → Int32) : Option (Int32 × Int32 × (Nat → Int32) × (Nat → Int32) × (Nat → Int32) × (Nat → Int32)) :=
  (f_X2_backFrom N bl td fi v3).bind fun x => if 0 ≤ x.1 then f_X2_find_L38 N c1 rc fs st ln su rr cr bc bl n v2 x.1 tr x.2.1 x.2.2 fa else some (v2, bc, bl, x.2.1, x.2.2, fa)
section STEP
variable {sz : Nat} {mba : Nat → Int32} {rs : Rn} {rc mrn bc mmy : Int32} {fs st ln rr cr mfi mst mle su msu bl mtr f : Nat → Int32} {B : List Nat}
theorem att_up {N mo fnd n p c e : Nat} (hB : BOK B) (hb2 : BL B mmy mtr) (hmo : fnd < mo) (hmo5 : mo ≤ 5) (kk : _) (mdf : Int32) (mdi mfa : Nat → Int32) (hc : B[p]? = some c) (he : e ≤ 8) :
    f_X4_attempt_L44 N (nI mo) mrn mmy 0 mfi mle mst msu mtr kk (n + 1) (nI fnd) (nI 20000) (nI p) (nI e) mdf mdi mfa = kk mdf (upd mdi c 0) mfa := by
  have hc16 := hB.2.1 c (List.mem_of_getElem? hc)
  have hp := (List.getElem?_eq_some_iff.mp hc).1
  have hl := hB.1
  have h9 : nI e + 1 ≤ 9 := by rw [nI_1]; exact nI_le (a := e + 1) (b := 9) (by omega) (by omega)
  have hin : inR (nI c) 16 := inR_in (by decide) hc16
  have hin0 : inR (nI p) 16 := inR_in (by decide) (by omega)
  have hge : ¬ nI mo ≤ nI fnd := nI_ge hmo (by omega)
  have h0 : ¬ nI p < 0 := nI_pos (by omega)
  have hclp : (nI p).toNatClampNeg = p := nI_clamp (by omega)
  have hc2 := hb2.2 p c hc
  have h20 : nI 20000 = 20000 := rfl
  rw [f_X4_attempt_L44.eq_2, if_neg h0, if_neg hge, gd_t hin0]
  simp only [hclp, hc2, nI_clamp (show c < 2 ^ 31 by omega), jn_p]
  rw [gd_t hin, if_pos h9, if_pos h20]
theorem att_try (h : RT rs mrn mfi mst mle) (hV : VR sz mba rs) {N mo fnd tr n p c e : Nat} (hN : 16 < N) (hB : BOK B) (hb2 : BL B mmy mtr) (hmo : fnd < mo) (hmo5 : mo ≤ 5) (kk : _) (mdf : Int32) (mdi mfa : Nat → Int32) (hc : B[p]? = some c) (he : e ≤ 8) (htr : tr < 20000) :
    f_X4_attempt_L44 N (nI mo) mrn mmy 0 mfi mle mst msu mtr kk (n + 1) (nI fnd) (nI tr) (nI p) (nI e) mdf mdi mfa =
      if gAll rs msu (upd mdi c 0) c (nI (e + 1)) rs.length 0 = true then
        if p + 1 < B.length then f_X4_attempt_L44 N (nI mo) mrn mmy 0 mfi mle mst msu mtr kk n (nI fnd) (nI (tr + 1)) (nI (p + 1)) 0 mdf (upd mdi c (nI (e + 1))) mfa
        else if ansN rs msu (upd mdi c (nI (e + 1))) rs.length 0 = true then (f_X4_keep N mdf (upd mdi c (nI (e + 1))) mfa (nI (fnd + 1))).bind fun x => f_X4_attempt_L44 N (nI mo) mrn mmy 0 mfi mle mst msu mtr kk n (nI (fnd + 1)) (nI (tr + 1)) (nI p) (nI (e + 1)) x.1 (upd mdi c (nI (e + 1))) x.2
        else f_X4_attempt_L44 N (nI mo) mrn mmy 0 mfi mle mst msu mtr kk n (nI fnd) (nI (tr + 1)) (nI p) (nI (e + 1)) mdf (upd mdi c (nI (e + 1))) mfa
      else f_X4_attempt_L44 N (nI mo) mrn mmy 0 mfi mle mst msu mtr kk n (nI fnd) (nI (tr + 1)) (nI p) (nI (e + 1)) mdf (upd mdi c 0) mfa := by
  have hc16 := hB.2.1 c (List.mem_of_getElem? hc)
  have hp := (List.getElem?_eq_some_iff.mp hc).1
  have hl := hB.1
  have h9 : nI e + 1 ≤ 9 := by rw [nI_1]; exact nI_le (a := e + 1) (b := 9) (by omega) (by omega)
  have hin : inR (nI c) 16 := inR_in (by decide) hc16
  have hin0 : inR (nI p) 16 := inR_in (by decide) (by omega)
  have hge : ¬ nI mo ≤ nI fnd := nI_ge hmo (by omega)
  have h0 : ¬ nI p < 0 := nI_pos (by omega)
  have hclp : (nI p).toNatClampNeg = p := nI_clamp (by omega)
  have hc2 := hb2.2 p c hc
  have h20 : ¬ nI tr = 20000 := fun q => by have := (nI_inj (b := 20000) (by omega) (by omega)).mp q; omega
  have hm1 : mmy - 1 = nI (B.length - 1) := by rw [hb2.1]; exact nI_sub (b := 1) (by omega)
  have e1 := nI_1 e
  rw [f_X4_attempt_L44.eq_2, if_neg h0, if_neg hge, gd_t hin0]
  simp only [hclp, hc2, nI_clamp (show c < 2 ^ 31 by omega), jn_p, upd_upd]
  rw [gd_t hin, if_pos h9, if_neg h20, e1, isGood_eq h hV hN hc16 msu]
  simp only [Option.bind_some, hm1, isAnswerM_eq h hV hN msu, nI_1]
  cases hG : gAll rs msu (upd mdi c 0) c (nI (e + 1)) rs.length 0
  · rw [if_pos (show b01 false = 0 from rfl), if_neg (by decide)]
  · rw [if_neg (by decide), if_pos rfl, gd_t hin]
    by_cases hq : p + 1 < B.length
    · rw [if_pos hq, if_neg (nI_ge (by omega) (by omega))]
    · rw [if_neg hq, if_pos (nI_le (by omega) (by omega))]
      cases hA : ansN rs msu (upd mdi c (nI (e + 1))) rs.length 0
      · rw [if_pos (show b01 false = 0 from rfl), if_neg (by decide)]
      · rw [if_neg (by decide), if_pos rfl]
theorem find_up {N mo fnd n p : Nat} (td fi fa : Nat → Int32) : f_X2_find_L38 N (nI mo) rc fs st ln su rr cr bc bl (n + 1) (nI fnd) (nI p) (nI 20000) td fi fa = some (-1, bc, bl, td, fi, fa) := by
  rw [f_X2_find_L38.eq_2, if_pos (show (20000 : Int32) ≤ nI 20000 from Int32.le_refl _)]
theorem find_try (h : RT rs rc fs st ln) (hR : RRel rs rr cr) (hV : VR sz mba rs) {N mo fnd tr n p c e : Nat} (hN : 16 < N) (hB : BOK B) (hb1 : BL B bc bl) (hmo : fnd < mo) (hmo5 : mo ≤ 5) (td fi fa : Nat → Int32) (hc : B[p]? = some c) (he : e ≤ 8) (htr : tr < 20000) (ht : td c = nI e) (hD : ∀ x, x < 16 → ∃ e : Nat, e ≤ 9 ∧ fi x = nI e) :
    f_X2_find_L38 N (nI mo) rc fs st ln su rr cr bc bl (n + 1) (nI fnd) (nI p) (nI tr) td fi fa =
      if gAll rs su (upd fi c 0) c (nI (e + 1)) rs.length 0 = true then
        if p + 1 < B.length then aft N (nI mo) rc fs st ln su rr cr bc bl n (nI fnd) (nI (p + 1)) (nI (tr + 1)) (upd td c (nI (e + 1))) (upd fi c (nI (e + 1))) fa
        else if ansN rs su (upd fi c (nI (e + 1))) rs.length 0 = true then
          (if fnd = 0 then f_X2_keepFirstAnswer N (upd fi c (nI (e + 1))) fa else some fa).bind fun x =>
            if fnd + 1 < mo then aft N (nI mo) rc fs st ln su rr cr bc bl n (nI (fnd + 1)) (nI p) (nI (tr + 1)) (upd td c (nI (e + 1))) (upd fi c (nI (e + 1))) x else some (nI (fnd + 1), bc, bl, upd td c (nI (e + 1)), upd fi c (nI (e + 1)), x)
        else aft N (nI mo) rc fs st ln su rr cr bc bl n (nI fnd) (nI p) (nI (tr + 1)) (upd td c (nI (e + 1))) (upd fi c (nI (e + 1))) fa
      else aft N (nI mo) rc fs st ln su rr cr bc bl n (nI fnd) (nI p) (nI (tr + 1)) (upd td c (nI (e + 1))) (upd fi c 0) fa := by
  have hc16 := hB.2.1 c (List.mem_of_getElem? hc)
  have hp := (List.getElem?_eq_some_iff.mp hc).1
  have hl := hB.1
  have h20 : ¬ (20000 : Int32) ≤ nI tr := nI_ge (b := 20000) htr (by omega)
  rw [f_X2_find_L38.eq_2, if_neg h20, at_in bl (by decide) (by omega), hb1.2 p c hc, tryNext_eq h hR hV hN hc16 td fi he ht hD]
  simp only [Option.bind_some, jn_p, nI_1, hb1.1]
  cases hG : gAll rs su (upd fi c 0) c (nI (e + 1)) rs.length 0
  · rw [if_pos (show b01 false = 0 from rfl), if_pos (show b01 false = 0 from rfl), if_neg (by decide), if_neg (by decide)]; rfl
  · rw [if_neg (by decide), if_pos rfl, if_pos rfl]
    by_cases hq : p + 1 < B.length
    · rw [if_pos hq, if_neg (nI_ge (by omega) (by omega))]; rfl
    · rw [if_neg hq, if_pos (nI_le (by omega) (by omega)), if_neg (by decide), isAnswer_eq h hV hN su]
      simp only [Option.bind_some]
      cases hA : ansN rs su (upd fi c (nI (e + 1))) rs.length 0
      · rw [if_pos (show b01 false = 0 from rfl), if_neg (by decide)]; rfl
      · rw [if_neg (by decide), if_pos rfl]
        have hlt : ∀ {α : Type} (a b : α), (if nI (fnd + 1) < nI mo then a else b) = if fnd + 1 < mo then a else b := by
          intro α a b
          by_cases hw : fnd + 1 < mo
          · rw [if_pos hw, if_pos (nI_lt hw (by omega))]
          · rw [if_neg hw, if_neg (nI_nlt (by omega) (by omega))]
        simp only [hlt]
        by_cases hf : fnd = 0
        · rw [if_pos (show nI (fnd + 1) = (1 : Int32) by rw [hf]; rfl), if_pos hf]; rfl
        · rw [if_neg (fun q => by have := (nI_inj (a := fnd + 1) (b := 1) (by omega) (by omega)).mp q; omega), if_neg hf]; rfl
end STEP
