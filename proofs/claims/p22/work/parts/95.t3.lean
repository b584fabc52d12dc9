/-! trying, from its start to its end, and all fillings: how many answers -/
theorem at0 {L : List Nat} (h : ¬ L.length = 0) : ∃ c, L[0]? = some c := ⟨_, List.getElem?_eq_getElem (by omega)⟩
section FINDC
variable {sz : Nat} {mba mgi g : Nat → Int32} {rs : Rn} {rc bc : Int32} {fs st ln rr cr su bl : Nat → Int32} {B : List Nat}
def aA (rs : Rn) (su : Nat → Int32) : (Nat → Int32) → Bool := fun D => ansN rs su D rs.length 0
def FRES (B : List Nat) (mgi : Nat → Int32) (A : (Nat → Int32) → Bool) (mo k need tot : Nat) (bc : Int32) (bl : Nat → Int32) (x : Option (Int32 × Int32 × (Nat → Int32) × (Nat → Int32) × (Nat → Int32) × (Nat → Int32))) : Prop :=
  ∃ (ret : Int32) (td fi fa : Nat → Int32), x = some (ret, bc, bl, td, fi, fa) ∧ ((ret = -1 ∧ k < need) ∨ ret = nI (min mo tot)) ∧ (ret = nI 2 → mo = 2 → ANSW B mgi A fa ∧ ANSW B mgi A fi)
theorem FRES.mono {A : (Nat → Int32) → Bool} {mo k k' need need' tot tot' : Nat} {x : Option (Int32 × Int32 × (Nat → Int32) × (Nat → Int32) × (Nat → Int32) × (Nat → Int32))} (h : FRES B mgi A mo k need tot bc bl x) (h1 : k < need → k' < need') (h2 : tot = tot') : FRES B mgi A mo k' need' tot' bc bl x := by
  obtain ⟨ret, td, fi, fa, e, h3, h4⟩ := h
  refine ⟨ret, td, fi, fa, e, ?_, h4⟩
  rcases h3 with ⟨a, b⟩ | a
  · exact Or.inl ⟨a, h1 b⟩
  · exact Or.inr (by rw [← h2]; exact a)
theorem find_cnt (hC : Cells sz mba mgi g) (h1 : RT rs rc fs st ln) (hR : RRel rs rr cr) (hV : VR sz mba rs) {N mo : Nat} (hN : 64 < N) (hB : BOK B) (hBf : ∀ x, opn sz mba x = true → x ∉ B → ∃ d : Nat, 1 ≤ d ∧ d ≤ 9 ∧ mgi x = nI d) (hb1 : BL B bc bl) (hmo5 : mo ≤ 5) :
    ∀ (k tr fnd p e n : Nat) (td fi fa : Nat → Int32), tr + k = 20000 → k < n → fnd < mo → p < B.length → e ≤ 8 → ST B mgi p td fi fi → (∀ c, B[p]? = some c → td c = nI e) → ZP B p fi → (1 ≤ fnd → ANSW B mgi (aA rs su) fa) →
      FRES B mgi (aA rs su) mo k (Need B td (p + 1)) (fnd + Rem (aA rs su) B td fi (p + 1)) bc bl (f_X2_find_L38 N (nI mo) rc fs st ln su rr cr bc bl n (nI fnd) (nI p) (nI tr) td fi fa) := by
  have hA : okA (aA rs su) := okA_ans hV su
  have hl := hB.1
  intro k
  induction k with
  | zero =>
    intro tr fnd p e n td fi fa hk hn hf hp he hst htd hz hfa
    obtain ⟨m, rfl⟩ : ∃ m, n = m + 1 := ⟨n - 1, by omega⟩
    obtain rfl : tr = 20000 := by omega
    obtain ⟨c, hc⟩ : ∃ c, B[p]? = some c := ⟨_, List.getElem?_eq_getElem hp⟩
    rw [find_up]
    refine ⟨-1, td, fi, fa, rfl, Or.inl ⟨rfl, ?_⟩, fun q => absurd q.symm (nI_nneg1 (by omega))⟩
    rw [Need_succ hc (htd c hc) (by omega)]
    have h1 := Vt_pos (B.length - p) (by omega)
    have h2 : 1 * 1 ≤ (9 - e) * Vt (B.length - p) := Nat.mul_le_mul (by omega) h1
    omega
  | succ k ih =>
    intro tr fnd p e n td fi fa hk hn hf hp he hst htd hz hfa
    obtain ⟨m, rfl⟩ : ∃ m, n = m + 1 := ⟨n - 1, by omega⟩
    have after : ∀ (fnd' p1 e1 : Nat) (td1 fi1 fa1 : Nat → Int32), fnd' < mo → p1 < B.length → e1 ≤ 9 → ST B mgi p1 td1 fi1 fi1 → (∀ c, B[p1]? = some c → td1 c = nI e1) → ZP B p1 fi1 → (1 ≤ fnd' → ANSW B mgi (aA rs su) fa1) →
        FRES B mgi (aA rs su) mo k (Need B td1 (p1 + 1)) (fnd' + Rem (aA rs su) B td1 fi1 (p1 + 1)) bc bl (aft N (nI mo) rc fs st ln su rr cr bc bl m (nI fnd') (nI p1) (nI (tr + 1)) td1 fi1 fa1) := by
      intro fnd' p1 e1 td1 fi1 fa1 hf' hp1 he1 hst1 htd1 hz1 hfa1
      rcases back_C hA hB hb1 p1 N e1 td1 fi1 (by omega) hp1 he1 hst1 htd1 hz1 with ⟨p', e', td', fi', q1, q2, q3, q4, q5, q6, q7, q8⟩ | ⟨td', fi', q1, q2⟩
      · rw [backFrom_pos (show p' < 16 by omega) (by rw [f_X2_backFrom]; exact q3)]
        exact (ih (tr + 1) fnd' p' e' m td' fi' fa1 (by omega) (by omega) hf' (by omega) q2 q4 q5 q6 hfa1).mono (fun w => by omega) (by rw [q7])
      · rw [backFrom_neg (by rw [f_X2_backFrom]; exact q1), q2]
        refine ⟨nI fnd', td', fi', fa1, rfl, Or.inr ?_, fun q w => ?_⟩
        · rw [show min mo (fnd' + 0) = fnd' by omega]
        · have := (nI_inj (by omega) (by omega)).mp q
          omega
    obtain ⟨c, hc⟩ : ∃ c, B[p]? = some c := ⟨_, List.getElem?_eq_getElem hp⟩
    have hcB := List.mem_of_getElem? hc
    have hc16 := hB.2.1 c hcB
    have hD := fun x hx => (hst.1 x hx).2
    have hne : ∀ q x : Nat, q ≠ p → B[q]? = some x → x ≠ c := fun q x hq hx w => by subst w; exact hq (hB.2.2 _ _ _ hx hc)
    have hVt := Vt_pos (B.length - p) (by omega)
    rw [find_try h1 hR hV (by omega) hB hb1 hf hmo5 td fi fa hc he (by omega) (htd c hc) hD]
    have hst0 : ST B mgi p (upd td c (nI (e + 1))) (upd fi c 0) (upd fi c 0) := ST_put (v := 0) hB hst hc (by omega) (by omega)
    have hst1 : ST B mgi p (upd td c (nI (e + 1))) (upd fi c (nI (e + 1))) (upd fi c (nI (e + 1))) := ST_put hB hst hc (by omega) (by omega)
    have htd1 : ∀ x, B[p]? = some x → upd td c (nI (e + 1)) x = nI (e + 1) := fun x hx => by rw [hc] at hx; cases hx; exact upd_eq _ _ _
    have hz1 : ∀ v : Int32, ZP B p (upd fi c v) := fun v => ⟨fun q x hq hx => by rw [upd_ne _ _ (hne q x (by omega) hx)]; exact hz.1 q x hq hx, fun q x hq hx => by rw [upd_ne _ _ (hne q x (by omega) hx)]; exact hz.2 q x hq hx⟩
    obtain ⟨t0, n0⟩ := try_eq hA hB (fi := fi) hc (htd c hc) he 0
    obtain ⟨t1, n1⟩ := try_eq hA hB (fi := fi) hc (htd c hc) he (nI (e + 1))
    by_cases g1 : gAll rs su (upd fi c 0) c (nI (e + 1)) rs.length 0 = true
    · rw [if_pos g1]
      by_cases g2 : p + 1 < B.length
      · rw [if_pos g2]
        obtain ⟨c', hc'⟩ : ∃ c, B[p + 1]? = some c := ⟨_, List.getElem?_eq_getElem g2⟩
        have ht' : upd td c (nI (e + 1)) c' = 0 := hst1.2.2.2.2 (p + 1) c' (by omega) hc'
        obtain ⟨d1, d2⟩ := down_eq (A := aA rs su) (fi := upd fi c (nI (e + 1))) hc' ht'
        have hnz : ∀ x : Nat, x ≤ 9 → x ≠ 0 → nI x ≠ 0 := fun x h9 h0 q => h0 ((nI_zero h9).mp q)
        refine (after fnd (p + 1) 0 _ _ _ hf g2 (by omega) ?_ ?_ ?_ hfa).mono (fun w => ?_) ?_
        · obtain ⟨s1, s2, s3, s4, s5⟩ := hst1
          refine ⟨s1, s2, s3, fun q x hq hx => ?_, fun q x hq hx => s5 q x (by omega) hx⟩
          by_cases hqp : q = p
          · subst hqp; rw [hc] at hx; cases hx; rw [upd_eq, upd_eq]
          · exact s4 q x (by omega) hx
        · intro x hx; rw [hc'] at hx; cases hx; exact ht'
        · refine ⟨fun q x hq hx => ?_, fun q x hq hx => (hz1 (nI (e + 1))).2 q x (by omega) hx⟩
          by_cases hqp : q = p
          · subst hqp; rw [hc] at hx; cases hx; rw [upd_eq]; exact hnz (e + 1) (by omega) (by omega)
          · exact (hz1 (nI (e + 1))).1 q x (by omega) hx
        · have : Vt (B.length - p) = 1 + 9 * Vt (B.length - (p + 1)) := by
            rw [show B.length - p = (B.length - (p + 1)) + 1 by omega, Vt]
          omega
        · omega
      · rw [if_neg g2]
        have hdr : B.drop (p + 1) = [] := List.drop_eq_nil_of_le (by omega)
        have hcn : Cn (aA rs su) (B.drop (p + 1)) (upd fi c (nI (e + 1))) = if ansN rs su (upd fi c (nI (e + 1))) rs.length 0 = true then 1 else 0 := by rw [hdr, Cn]; rfl
        by_cases g3 : ansN rs su (upd fi c (nI (e + 1))) rs.length 0 = true
        · rw [if_pos g3]
          rw [if_pos g3] at hcn
          have hans : ANSW B mgi (aA rs su) (upd fi c (nI (e + 1))) := by
            refine ⟨hst1.2.1, fun x hx => ?_, g3⟩
            obtain ⟨q, hq⟩ := List.mem_iff_getElem?.mp hx
            have hql := (List.getElem?_eq_some_iff.mp hq).1
            by_cases hqp : q = p
            · subst hqp; rw [hc] at hq; cases hq
              exact ⟨e + 1, by omega, by omega, upd_eq _ _ _⟩
            · obtain ⟨v, hv, ev⟩ := (hst1.1 x (hB.2.1 x hx)).2
              have hnz := (hz1 (nI (e + 1))).1 q x (by omega) hq
              rw [ev] at hnz ⊢
              exact ⟨v, by
                have : v ≠ 0 := fun w => hnz (by rw [w]; rfl)
                omega, hv, rfl⟩
          have fin : ∀ fa1 : Nat → Int32, ANSW B mgi (aA rs su) fa1 → FRES B mgi (aA rs su) mo (k + 1) (Need B td (p + 1)) (fnd + Rem (aA rs su) B td fi (p + 1)) bc bl (if fnd + 1 < mo then aft N (nI mo) rc fs st ln su rr cr bc bl m (nI (fnd + 1)) (nI p) (nI (tr + 1)) (upd td c (nI (e + 1))) (upd fi c (nI (e + 1))) fa1 else some (nI (fnd + 1), bc, bl, upd td c (nI (e + 1)), upd fi c (nI (e + 1)), fa1)) := by
            intro fa1 hfa1
            by_cases g5 : fnd + 1 < mo
            · rw [if_pos g5]
              exact (after (fnd + 1) p (e + 1) _ _ _ g5 hp (by omega) hst1 htd1 (hz1 _) (fun _ => hfa1)).mono (fun w => by omega) (by omega)
            · rw [if_neg g5]
              refine ⟨_, _, _, _, rfl, Or.inr ?_, fun _ _ => ⟨hfa1, hans⟩⟩
              rw [show min mo (fnd + Rem (aA rs su) B td fi (p + 1)) = fnd + 1 by omega]
          by_cases g4 : fnd = 0
          · obtain ⟨fa', k1, k2⟩ := keepC_eq (upd fi c (nI (e + 1))) fa (N := N) (by omega)
            rw [if_pos g4, k1, Option.bind_some]
            refine fin fa' ⟨fun x hx hxB => by rw [k2 x hx]; exact hans.1 x hx hxB, fun x hx => by rw [k2 x (hB.2.1 x hx)]; exact hans.2.1 x hx, ?_⟩
            rw [hA _ _ k2]; exact hans.2.2
          · rw [if_neg g4, Option.bind_some]
            exact fin fa (hfa (by omega))
        · rw [if_neg g3]
          rw [if_neg g3] at hcn
          exact (after fnd p (e + 1) _ _ _ hf hp (by omega) hst1 htd1 (hz1 _) hfa).mono (fun w => by omega) (by omega)
    · rw [if_neg g1]
      have hzero : Cn (aA rs su) (B.drop (p + 1)) (upd fi c (nI (e + 1))) = 0 := by
        refine Cn_zero hA _ _ ?_ (fun x hx => ?_) fun E q1 q2 => ?_
        · exact nodup_of _ fun q q' x hx hx' => by
            rw [List.getElem?_drop] at hx hx'
            have := hB.2.2 _ _ _ hx hx'
            omega
        · obtain ⟨q, _, hq⟩ := mem_drop_iff.mp hx
          exact hB.2.1 x (List.mem_of_getElem? hq)
        · cases hq : aA rs su E with
          | false => rfl
          | true =>
            exfalso
            apply g1
            have hcd : c ∉ B.drop (p + 1) := fun w => by
              obtain ⟨q, hq1, hq2⟩ := mem_drop_iff.mp w
              have := hB.2.2 _ _ _ hq2 hc
              omega
            have hEc : E c = nI (e + 1) := by rw [q1 c hc16 hcd, upd_eq]
            refine prune hV (su := su) (E := E) (by omega) (by omega) (upd_eq _ _ _) hEc (fun x hx => ?_) (fun x hx => ?_) (fun x hx hxc hnz => ?_) hq
            · by_cases hxc : x = c
              · rw [hxc, upd_eq]; exact ⟨0, by omega, rfl⟩
              · rw [upd_ne _ _ hxc]; exact hD x hx
            · have hx16 := opn_lt hx
              by_cases hxB : x ∈ B
              · obtain ⟨q, hq'⟩ := List.mem_iff_getElem?.mp hxB
                by_cases hqp : q = p
                · subst hqp; rw [hc] at hq'; cases hq'
                  exact ⟨e + 1, by omega, by omega, hEc⟩
                · by_cases hlt : q < p
                  · have hxd : x ∉ B.drop (p + 1) := fun w => by
                      obtain ⟨q', hq1, hq2⟩ := mem_drop_iff.mp w
                      have := hB.2.2 _ _ _ hq2 hq'
                      omega
                    obtain ⟨v, hv, ev⟩ := hD x hx16
                    have hnz := hz.1 q x hlt hq'
                    rw [q1 x hx16 hxd, upd_ne _ _ (hne q x hqp hq'), ev]
                    rw [ev] at hnz
                    exact ⟨v, by
                      have : v ≠ 0 := fun w => hnz (by rw [w]; rfl)
                      omega, hv, rfl⟩
                  · exact q2 x (mem_drop_iff.mpr ⟨q, by omega, hq'⟩)
              · have hxd : x ∉ B.drop (p + 1) := fun w => hxB (List.mem_of_mem_drop w)
                have hxc : x ≠ c := fun w => hxB (w ▸ hcB)
                rw [q1 x hx16 hxd, upd_ne _ _ hxc, hst.2.1 x hx16 hxB]
                exact hBf x hx hxB
            · rw [upd_ne _ _ hxc] at hnz ⊢
              have hxd : x ∉ B.drop (p + 1) := fun w => by
                obtain ⟨q, hq1, hq2⟩ := mem_drop_iff.mp w
                exact hnz (hz.2 q x (by omega) hq2)
              rw [q1 x hx hxd, upd_ne _ _ hxc]
      exact (after fnd p (e + 1) _ _ _ hf hp (by omega) hst0 htd1 (hz1 _) hfa).mono (fun w => by omega) (by omega)
theorem blanks_f (hC : Cells sz mba mgi g) : ∀ x, opn sz mba x = true → x ∉ bp (blk sz mba mgi) 16 → ∃ d : Nat, 1 ≤ d ∧ d ≤ 9 ∧ mgi x = nI d := by
  intro x hx hxB
  have hx16 := opn_lt hx
  obtain ⟨-, ⟨d, hd, e⟩, -⟩ := hC.2 x hx16
  refine ⟨d, ?_, hd, e⟩
  have hd0 : d ≠ 0 := fun w => hxB ((bp_mem _ 16 x).mpr ⟨hx16, by rw [blk, hx, e, w]; rfl⟩)
  omega
/-- how many answers a board has -/
def nA (sz : Nat) (mba mgi : Nat → Int32) (rs : Rn) (su : Nat → Int32) : Nat := Cn (aA rs su) (bp (blk sz mba mgi) 16) mgi
theorem find_all (hC : Cells sz mba mgi g) (h1 : RT rs rc fs st ln) (hR : RRel rs rr cr) (hV : VR sz mba rs) {N mo : Nat} (hN : 50000 < N) (hmo : 0 < mo) (hmo5 : mo ≤ 5) (bc : Int32) (bl td fi fa : Nat → Int32) :
    ∃ (ret bc' : Int32) (bl' td' fi' fa' : Nat → Int32), f_X2_find N (nI sz) rc g fs st ln su rr cr bc bl td fi fa (nI mo) = some (ret, bc', bl', td', fi', fa') ∧ ((ret = -1 ∧ 4 < (bp (blk sz mba mgi) 16).length) ∨ ret = nI (min mo (nA sz mba mgi rs su))) ∧ (ret = nI 2 → mo = 2 → ANSW (bp (blk sz mba mgi) 16) mgi (aA rs su) fa' ∧ ANSW (bp (blk sz mba mgi) 16) mgi (aA rs su) fi') := by
  obtain ⟨bc', bl', td', fi', e1, hb1, hf1⟩ := hC.start (N := N) (by omega) bc bl td fi
  have hB := bp_ok sz mba mgi
  have hA : okA (aA rs su) := okA_ans hV su
  have hl := hB.1
  have hcell : ∀ (r : Nat) (t : Nat × Nat × Nat), rs[r]? = some t → ∀ j, j < t.2.2 → t.1 + j * t.2.1 < 16 := fun r t hr j hj => ((hV.at hr).2.2.2 j hj).2
  have hcn : Cn (aA rs su) (bp (blk sz mba mgi) 16) fi' = nA sz mba mgi rs su := Cn_congr hA _ _ _ (fun x hx _ => (hf1 x hx).2)
  rw [f_X2_find, e1]
  simp only [Option.bind_some, jn_p]
  by_cases h0 : (bp (blk sz mba mgi) 16).length = 0
  · have hnil : bp (blk sz mba mgi) 16 = [] := List.eq_nil_of_length_eq_zero h0
    rw [if_pos (by rw [hb1.1, h0]; rfl), isAnswer_eq h1 hV (by omega) su]
    simp only [Option.bind_some]
    have hq : nA sz mba mgi rs su = if ansN rs su fi' rs.length 0 = true then 1 else 0 := by rw [← hcn, hnil, Cn]; rfl
    cases ha : ansN rs su fi' rs.length 0
    · rw [if_pos (show b01 false = 0 from rfl)]
      refine ⟨0, _, _, _, _, _, rfl, Or.inr ?_, fun q => absurd q (by decide)⟩
      rw [hq, ha, show min mo (if false = true then 1 else 0) = 0 by simp]; rfl
    · rw [if_neg (by decide)]
      refine ⟨1, _, _, _, _, _, rfl, Or.inr ?_, fun q => absurd q (by decide)⟩
      rw [hq, ha, if_pos rfl, show min mo 1 = 1 by omega]; rfl
  · have hz1 : ¬ bc' = 0 := fun q => by rw [hb1.1] at q; have := (nI_inj (b := 0) (by omega) (by omega)).mp q; omega
    rw [if_neg hz1]
    have hd : ∀ c, c < 16 → ∃ e : Nat, e ≤ 9 ∧ mgi c = nI e := fun c hc => (hC.2 c hc).2.1
    have hst : ST (bp (blk sz mba mgi) 16) mgi 0 td' fi' fi' := by
      refine ⟨fun c hc => ?_, fun c hc _ => (hf1 c hc).2, fun q c hq => ?_, fun q c hq => by omega, fun q c _ hq => ?_⟩
      · rw [(hf1 c hc).2]; exact ⟨rfl, hd c hc⟩
      · rw [(hf1 c (hB.2.1 c (List.mem_of_getElem? hq))).1]; exact ⟨0, by omega, rfl⟩
      · exact (hf1 c (hB.2.1 c (List.mem_of_getElem? hq))).1
    obtain ⟨c, hc⟩ := at0 h0
    have htc : td' c = 0 := (hf1 c (hB.2.1 c (List.mem_of_getElem? hc))).1
    have key := find_cnt (su := su) (mo := mo) hC h1 hR hV (by omega : 64 < N) hB (blanks_f hC) hb1 hmo5 20000 0 0 0 0 N td' fi' fa (by omega) (by omega) hmo (by omega) (by omega) hst (fun x hx => by rw [hc] at hx; cases hx; exact htc) ⟨fun q x hq => by omega, fun q x _ hx => by
      have hxB := List.mem_of_getElem? hx
      rw [(hf1 x (hB.2.1 x hxB)).2]
      have := ((bp_mem _ 16 x).mp hxB).2
      simp only [blk, Bool.and_eq_true, decide_eq_true_eq] at this
      exact this.2⟩ (fun q => by omega)
    obtain ⟨ret, td2, fi2, fa2, q1, q2, q3⟩ := key
    refine ⟨ret, bc', bl', td2, fi2, fa2, q1, ?_, q3⟩
    have r1 : Rem (aA rs su) (bp (blk sz mba mgi) 16) td' fi' (0 + 1) = nA sz mba mgi rs su := by
      rw [Rem_succ (e := 0) hc htc (by omega), ← hcn]
      conv => rhs; rw [show bp (blk sz mba mgi) 16 = c :: (bp (blk sz mba mgi) 16).drop (0 + 1) from (drop_at hc)]
      rw [Cn, Rem, Nat.zero_add]
    have r2 : Need (bp (blk sz mba mgi) 16) td' (0 + 1) = 9 * Vt (bp (blk sz mba mgi) 16).length := by
      rw [Need_succ (e := 0) hc htc (by omega), Need, Nat.zero_add, Nat.sub_zero, Nat.sub_zero]
    rw [r1, r2, Nat.zero_add] at q2
    rcases q2 with ⟨a, b⟩ | a
    · left
      refine ⟨a, ?_⟩
      have hle : ∀ j, j ≤ 4 → Vt j ≤ 820 := by
        intro j hj
        have : j = 0 ∨ j = 1 ∨ j = 2 ∨ j = 3 ∨ j = 4 := by omega
        rcases this with rfl | rfl | rfl | rfl | rfl <;> decide
      rcases Nat.lt_or_ge 4 (bp (blk sz mba mgi) 16).length with w | w
      · exact w
      · have := hle _ w; omega
    · exact Or.inr a
end FINDC
