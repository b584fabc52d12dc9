theorem fit01 {v : Int32} (h : v = 0 ∨ v = 1) : fits .boolean (.int v) = true := by rcases h with h | h <;> (subst h; rfl)
def f_X4_thrown (mth : Int32) : (Int32) :=
  mth
def f_X4_goesWell (mth : Int32) (p1 : Int32) : (Int32 × Int32) :=
  (if p1 = 0 then (1, p1) else (0, p1))
def f_X4_in (p0 : Int32) (p1 : Int32) (p2 : Int32) : (Int32) :=
  jn (fun (_ : Unit) => 0) fun k14 => (if p0 < p1 then k14 () else (if p2 < p0 then k14 () else 1))
def f_X4_isCell (msz : Int32) (p1 : Int32) : (Int32) :=
  jn (fun (_ : Unit) => 0) fun k34 => (if (f_X4_in p1 0 15) = 0 then k34 () else (if msz ≤ (p1 / 4) then k34 () else (if msz ≤ (p1 - p1 / 4 * 4) then k34 () else 1)))
def f_X4_isOpen (msz : Int32) (mba : Nat → Int32) (p1 : Int32) : Option (Int32) :=
  jn (fun (_ : Unit) => some 0) fun k21 => (if (f_X4_isCell msz p1) = 0 then k21 () else gd (inR p1 16) <| (if (mba ((p1 : Int32)).toNatClampNeg) = 0 then some 1 else k21 ()))
def f_X4_isRun (mrn : Int32) (p1 : Int32) : Option (Int32) :=
  gd ((f_X4_in p1 0 (mrn - 1)) = 0 ∨ (f_X4_in p1 0 (mrn - 1)) = 1) <| some (f_X4_in p1 0 (mrn - 1))
def f_X4_layRuns_L58 (c2_58 : Int32) (c3_58 : Int32) (msz : Int32) (mba : Nat → Int32) (k188 : Int32 → (Nat → Int32) → (Nat → Int32) → (Nat → Int32) → (Nat → Int32) → Option (Int32 × (Nat → Int32) × (Nat → Int32) × (Nat → Int32) × (Nat → Int32))) : Nat → Int32 → Int32 → Int32 → (Nat → Int32) → (Nat → Int32) → (Nat → Int32) → (Nat → Int32) → Option (Int32 × (Nat → Int32) × (Nat → Int32) × (Nat → Int32) × (Nat → Int32))
  | 0, _, _, _, _, _, _, _ => none
  | n58 + 1, v4_58, v5_58, mrn_58, mfi_58, mle_58, mst_58, msu_58 =>
    (if msz < v5_58 then k188 mrn_58 mfi_58 mle_58 mst_58 msu_58 else jn (fun (t0_95 : Int32) => jn (fun (mrn_167 : Int32) (mfi_167 : Nat → Int32) (mle_167 : Nat → Int32) (mst_167 : Nat → Int32) (msu_167 : Nat → Int32) => jn (fun (t0_180 : Int32) => f_X4_layRuns_L58 c2_58 c3_58 msz mba k188 n58 t0_180 (v5_58 + 1) mrn_167 mfi_167 mle_167 mst_167 msu_167) fun k180 => (if t0_95 = 0 then k180 0 else k180 (v4_58 + 1))) fun k167 => (if t0_95 = 0 then (if v4_58 ≤ 1 then k167 mrn_58 mfi_58 mle_58 mst_58 msu_58 else gd (inR mrn_58 8) <| gd (inR mrn_58 8) <| gd (inR mrn_58 8) <| gd (inR mrn_58 8) <| k167 (mrn_58 + 1) (upd mfi_58 ((mrn_58 : Int32)).toNatClampNeg (c3_58 + (c2_58 * (v5_58 - v4_58)))) (upd mle_58 ((mrn_58 : Int32)).toNatClampNeg v4_58) (upd mst_58 ((mrn_58 : Int32)).toNatClampNeg c2_58) (upd msu_58 ((mrn_58 : Int32)).toNatClampNeg 0)) else k167 mrn_58 mfi_58 mle_58 mst_58 msu_58)) fun k95 => jn (fun (_ : Unit) => k95 0) fun k94 => (if msz ≤ v5_58 then k94 () else gd (inR (c3_58 + (c2_58 * v5_58)) 16) <| (if (mba (((c3_58 + (c2_58 * v5_58)) : Int32)).toNatClampNeg) = 0 then k95 1 else k94 ())))
def f_X4_layRuns_L7 (N : Nat) (msz : Int32) (mba : Nat → Int32) : Nat → Int32 → Int32 → (Nat → Int32) → (Nat → Int32) → (Nat → Int32) → (Nat → Int32) → Option (Int32 × (Nat → Int32) × (Nat → Int32) × (Nat → Int32) × (Nat → Int32))
  | 0, _, _, _, _, _, _ => none
  | n7 + 1, v1_7, mrn_7, mfi_7, mle_7, mst_7, msu_7 =>
    (if (2 * msz) ≤ v1_7 then some (mrn_7, mfi_7, mle_7, mst_7, msu_7) else jn (fun (t0_30 : Int32) => jn (fun (t0_51 : Int32) => jn (fun (mrn_188 : Int32) (mfi_188 : Nat → Int32) (mle_188 : Nat → Int32) (mst_188 : Nat → Int32) (msu_188 : Nat → Int32) => f_X4_layRuns_L7 N msz mba n7 (v1_7 + 1) mrn_188 mfi_188 mle_188 mst_188 msu_188) fun k188 => f_X4_layRuns_L58 t0_30 t0_51 msz mba k188 N 0 0 mrn_7 mfi_7 mle_7 mst_7 msu_7) fun k51 => (if msz ≤ v1_7 then k51 (v1_7 - msz) else k51 (4 * v1_7))) fun k30 => (if msz ≤ v1_7 then k30 4 else k30 1))
def f_X4_layRuns (N : Nat) (msz : Int32) (mrn : Int32) (mba : Nat → Int32) (mfi : Nat → Int32) (mle : Nat → Int32) (mst : Nat → Int32) (msu : Nat → Int32) : Option (Int32 × (Nat → Int32) × (Nat → Int32) × (Nat → Int32) × (Nat → Int32)) :=
  f_X4_layRuns_L7 N msz mba N 0 0 mfi mle mst msu
def f_X4_begin_L28 (k54 : (Nat → Int32) → (Nat → Int32) → Option (Int32 × Int32 × Int32 × (Nat → Int32) × (Nat → Int32) × (Nat → Int32) × (Nat → Int32) × (Nat → Int32) × (Nat → Int32))) : Nat → Int32 → (Nat → Int32) → (Nat → Int32) → Option (Int32 × Int32 × Int32 × (Nat → Int32) × (Nat → Int32) × (Nat → Int32) × (Nat → Int32) × (Nat → Int32) × (Nat → Int32))
  | 0, _, _, _ => none
  | n28 + 1, v2_28, mba_28, mgi_28 =>
    (if 16 ≤ v2_28 then k54 mba_28 mgi_28 else gd (inR v2_28 16) <| gd (inR v2_28 16) <| f_X4_begin_L28 k54 n28 (v2_28 + 1) (upd mba_28 ((v2_28 : Int32)).toNatClampNeg (vp_nar .boolean 0)) (upd mgi_28 ((v2_28 : Int32)).toNatClampNeg 0))
def f_X4_begin (N : Nat) (mth : Int32) (msz : Int32) (mrn : Int32) (mba : Nat → Int32) (mgi : Nat → Int32) (mfi : Nat → Int32) (mle : Nat → Int32) (mst : Nat → Int32) (msu : Nat → Int32) (p1 : Int32) : Option (Int32 × Int32 × Int32 × (Nat → Int32) × (Nat → Int32) × (Nat → Int32) × (Nat → Int32) × (Nat → Int32) × (Nat → Int32)) :=
  jn (fun (t0_15 : Int32) => jn (f_X4_goesWell mth t0_15) fun x15 => (if x15.1 = 0 then some (x15.2, msz, mrn, mba, mgi, mfi, mle, mst, msu) else jn (fun (mba_54 : Nat → Int32) (mgi_54 : Nat → Int32) => (f_X4_layRuns N p1 mrn mba_54 mfi mle mst msu).bind fun x55 => some (x15.2, p1, x55.1, mba_54, mgi_54, x55.2.1, x55.2.2.1, x55.2.2.2.1, x55.2.2.2.2)) fun k54 => f_X4_begin_L28 k54 N 0 mba mgi)) fun k15 => (if (f_X4_in p1 2 4) = 0 then k15 1 else k15 0)
def f_X4_turn (mba : Nat → Int32) (mgi : Nat → Int32) (p1 : Int32) : Option ((Nat → Int32) × (Nat → Int32)) :=
  gd (inR p1 16) <| jn (fun (t0_19 : Int32) => gd (inR p1 16) <| gd (inR p1 16) <| some ((upd mba ((p1 : Int32)).toNatClampNeg (vp_nar .boolean t0_19)), (upd mgi ((p1 : Int32)).toNatClampNeg 0))) fun k19 => (if (mba ((p1 : Int32)).toNatClampNeg) = 0 then k19 1 else k19 0)
def f_X4_bar (N : Nat) (mth : Int32) (msz : Int32) (mrn : Int32) (mba : Nat → Int32) (mgi : Nat → Int32) (mfi : Nat → Int32) (mle : Nat → Int32) (mst : Nat → Int32) (msu : Nat → Int32) (p1 : Int32) : Option (Int32 × Int32 × Int32 × (Nat → Int32) × (Nat → Int32) × (Nat → Int32) × (Nat → Int32) × (Nat → Int32) × (Nat → Int32)) :=
  jn (fun (t0_14 : Int32) => jn (f_X4_goesWell mth t0_14) fun x14 => (if x14.1 = 0 then some (0, x14.2, mrn, mba, mgi, mfi, mle, mst, msu) else (f_X4_turn mba mgi p1).bind fun x24 => (f_X4_layRuns N msz mrn x24.1 mfi mle mst msu).bind fun x28 => gd (inR p1 16) <| gd ((x24.1 ((p1 : Int32)).toNatClampNeg) = 0 ∨ (x24.1 ((p1 : Int32)).toNatClampNeg) = 1) <| some ((x24.1 ((p1 : Int32)).toNatClampNeg), x14.2, x28.1, x24.1, x24.2, x28.2.1, x28.2.2.1, x28.2.2.2.1, x28.2.2.2.2))) fun k14 => (if (f_X4_isCell msz p1) = 0 then k14 1 else k14 0)
def f_X4_countOpen_L4 (msz : Int32) (mba : Nat → Int32) : Nat → Int32 → Int32 → Option (Int32)
  | 0, _, _ => none
  | n4 + 1, v1_4, v2_4 =>
    (if 16 ≤ v2_4 then some v1_4 else (f_X4_isOpen msz mba v2_4).bind fun x13 => jn (fun (t0_24 : Int32) => f_X4_countOpen_L4 msz mba n4 (v1_4 + t0_24) (v2_4 + 1)) fun k24 => (if x13 = 0 then k24 0 else k24 1))
def f_X4_countOpen (N : Nat) (msz : Int32) (mba : Nat → Int32) : Option (Int32) :=
  f_X4_countOpen_L4 msz mba N 0 0
def f_X4_barBoth (N : Nat) (mth : Int32) (msz : Int32) (mrn : Int32) (mba : Nat → Int32) (mgi : Nat → Int32) (mfi : Nat → Int32) (mle : Nat → Int32) (mst : Nat → Int32) (msu : Nat → Int32) (p1 : Int32) : Option (Int32 × Int32 × Int32 × (Nat → Int32) × (Nat → Int32) × (Nat → Int32) × (Nat → Int32) × (Nat → Int32) × (Nat → Int32)) :=
  jn (fun (t0_14 : Int32) => jn (f_X4_goesWell mth t0_14) fun x14 => (if x14.1 = 0 then some (0, x14.2, mrn, mba, mgi, mfi, mle, mst, msu) else (f_X4_turn mba mgi p1).bind fun x48 => jn (fun (mba_61 : Nat → Int32) (mgi_61 : Nat → Int32) => (f_X4_layRuns N msz mrn mba_61 mfi mle mst msu).bind fun x62 => (f_X4_countOpen N msz mba_61).bind fun x75 => some (((msz * msz) - x75), x14.2, x62.1, mba_61, mgi_61, x62.2.1, x62.2.2.1, x62.2.2.2.1, x62.2.2.2.2)) fun k61 => (if ((((4 * ((msz - 1) - (p1 / 4))) + msz) - 1) - (p1 - p1 / 4 * 4)) = p1 then k61 x48.1 x48.2 else (f_X4_turn x48.1 x48.2 ((((4 * ((msz - 1) - (p1 / 4))) + msz) - 1) - (p1 - p1 / 4 * 4))).bind fun x58 => k61 x58.1 x58.2))) fun k14 => (if (f_X4_isCell msz p1) = 0 then k14 1 else k14 0)
def f_X4_give (mth : Int32) (msz : Int32) (mba : Nat → Int32) (mgi : Nat → Int32) (p1 : Int32) (p2 : Int32) : Option (Int32 × Int32 × (Nat → Int32)) :=
  jn (fun (t0_43 : Int32) => jn (f_X4_goesWell mth t0_43) fun x43 => (if x43.1 = 0 then some (0, x43.2, mgi) else gd (inR p1 16) <| gd (inR p1 16) <| some ((mgi ((p1 : Int32)).toNatClampNeg), x43.2, (upd mgi ((p1 : Int32)).toNatClampNeg p2)))) fun k43 => (if (f_X4_isCell msz p1) = 0 then k43 1 else (if (f_X4_in p2 0 9) = 0 then k43 2 else gd (inR p1 16) <| (if (mba ((p1 : Int32)).toNatClampNeg) = 0 then k43 0 else k43 3)))
def f_X4_setSum (mth : Int32) (mrn : Int32) (msu : Nat → Int32) (p1 : Int32) (p2 : Int32) : Option (Int32 × Int32 × (Nat → Int32)) :=
  (f_X4_isRun mrn p1).bind fun x3 => jn (fun (t0_28 : Int32) => jn (f_X4_goesWell mth t0_28) fun x28 => (if x28.1 = 0 then some (0, x28.2, msu) else gd (inR p1 8) <| gd (inR p1 8) <| some ((msu ((p1 : Int32)).toNatClampNeg), x28.2, (upd msu ((p1 : Int32)).toNatClampNeg p2)))) fun k28 => (if x3 = 0 then k28 1 else (if (f_X4_in p2 0 45) = 0 then k28 2 else k28 0))
def f_X4_cellOf (mfi : Nat → Int32) (mst : Nat → Int32) (p1 : Int32) (p2 : Int32) : Option (Int32) :=
  gd (inR p1 8) <| gd (inR p1 8) <| some ((mfi ((p1 : Int32)).toNatClampNeg) + ((mst ((p1 : Int32)).toNatClampNeg) * p2))
def f_X4_has (mfi : Nat → Int32) (mle : Nat → Int32) (mst : Nat → Int32) (p1 : Int32) (p2 : Int32) : Option (Int32) :=
  gd (inR p1 8) <| jn (fun (_ : Unit) => some 0) fun k45 => (if (p2 - (mfi ((p1 : Int32)).toNatClampNeg)) < 0 then k45 () else gd (inR p1 8) <| gd (¬ (mst ((p1 : Int32)).toNatClampNeg) = 0) <| (if ((p2 - (mfi ((p1 : Int32)).toNatClampNeg)) - (p2 - (mfi ((p1 : Int32)).toNatClampNeg)) / (mst ((p1 : Int32)).toNatClampNeg) * (mst ((p1 : Int32)).toNatClampNeg)) = 0 then gd (inR p1 8) <| gd (¬ (mst ((p1 : Int32)).toNatClampNeg) = 0) <| gd (inR p1 8) <| (if (mle ((p1 : Int32)).toNatClampNeg) ≤ ((p2 - (mfi ((p1 : Int32)).toNatClampNeg)) / (mst ((p1 : Int32)).toNatClampNeg)) then k45 () else some 1) else k45 ()))
def f_X4_copyGiven_L2 (mgi : Nat → Int32) : Nat → Int32 → (Nat → Int32) → Option ((Nat → Int32))
  | 0, _, _ => none
  | n2 + 1, v1_2, mdi_2 =>
    (if 16 ≤ v1_2 then some mdi_2 else gd (inR v1_2 16) <| gd (inR v1_2 16) <| f_X4_copyGiven_L2 mgi n2 (v1_2 + 1) (upd mdi_2 ((v1_2 : Int32)).toNatClampNeg (mgi ((v1_2 : Int32)).toNatClampNeg)))
def f_X4_copyGiven (N : Nat) (mgi : Nat → Int32) (mdi : Nat → Int32) : Option ((Nat → Int32)) :=
  f_X4_copyGiven_L2 mgi N 0 mdi
def f_X4_isUnlike_L7 (c1_7 : Int32) (mfi : Nat → Int32) (mle : Nat → Int32) (mst : Nat → Int32) (mdi : Nat → Int32) : Nat → Int32 → Int32 → Int32 → Option (Int32)
  | 0, _, _, _ => none
  | n7 + 1, v2_7, v3_7, v4_7 =>
    gd (inR c1_7 8) <| (if (mle ((c1_7 : Int32)).toNatClampNeg) ≤ v4_7 then gd (v3_7 = 0 ∨ v3_7 = 1) <| some v3_7 else (f_X4_cellOf mfi mst c1_7 v4_7).bind fun x27 => gd (inR x27 16) <| jn (fun (t0_50 : Int32) => f_X4_isUnlike_L7 c1_7 mfi mle mst mdi n7 (v2_7 ||| (1 <<< ((mdi ((x27 : Int32)).toNatClampNeg) &&& 31))) t0_50 (v4_7 + 1)) fun k50 => jn (fun (_ : Unit) => k50 0) fun k49 => (if v3_7 = 0 then k49 () else (if (v2_7 &&& (1 <<< ((mdi ((x27 : Int32)).toNatClampNeg) &&& 31))) = 0 then k50 1 else k49 ())))
def f_X4_isUnlike (N : Nat) (mfi : Nat → Int32) (mle : Nat → Int32) (mst : Nat → Int32) (mdi : Nat → Int32) (p1 : Int32) : Option (Int32) :=
  f_X4_isUnlike_L7 p1 mfi mle mst mdi N 0 1 0
def f_X4_sumUp_L4 (c1_4 : Int32) (mfi : Nat → Int32) (mle : Nat → Int32) (mst : Nat → Int32) (mdi : Nat → Int32) : Nat → Int32 → Int32 → Option (Int32)
  | 0, _, _ => none
  | n4 + 1, v2_4, v3_4 =>
    gd (inR c1_4 8) <| (if (mle ((c1_4 : Int32)).toNatClampNeg) ≤ v3_4 then some v2_4 else (f_X4_cellOf mfi mst c1_4 v3_4).bind fun x22 => gd (inR x22 16) <| f_X4_sumUp_L4 c1_4 mfi mle mst mdi n4 (v2_4 + (mdi ((x22 : Int32)).toNatClampNeg)) (v3_4 + 1))
def f_X4_sumUp (N : Nat) (mfi : Nat → Int32) (mle : Nat → Int32) (mst : Nat → Int32) (mdi : Nat → Int32) (p1 : Int32) : Option (Int32) :=
  f_X4_sumUp_L4 p1 mfi mle mst mdi N 0 0
def f_X4_isAnswer_L4 (N : Nat) (mrn : Int32) (mfi : Nat → Int32) (mle : Nat → Int32) (mst : Nat → Int32) (msu : Nat → Int32) (mdi : Nat → Int32) : Nat → Int32 → Int32 → Option (Int32)
  | 0, _, _ => none
  | n4 + 1, v1_4, v2_4 =>
    (if mrn ≤ v2_4 then gd (v1_4 = 0 ∨ v1_4 = 1) <| some v1_4 else jn (fun (t0_52 : Int32) => f_X4_isAnswer_L4 N mrn mfi mle mst msu mdi n4 t0_52 (v2_4 + 1)) fun k52 => jn (fun (_ : Unit) => k52 0) fun k51 => (if v1_4 = 0 then k51 () else (f_X4_isUnlike N mfi mle mst mdi v2_4).bind fun x18 => (if x18 = 0 then k51 () else gd (inR v2_4 8) <| jn (fun (_ : Unit) => k52 1) fun k47 => (if (msu ((v2_4 : Int32)).toNatClampNeg) = 0 then k47 () else (f_X4_sumUp N mfi mle mst mdi v2_4).bind fun x35 => gd (inR v2_4 8) <| (if x35 = (msu ((v2_4 : Int32)).toNatClampNeg) then k47 () else k51 ())))))
def f_X4_isAnswer (N : Nat) (mrn : Int32) (mfi : Nat → Int32) (mle : Nat → Int32) (mst : Nat → Int32) (msu : Nat → Int32) (mdi : Nat → Int32) : Option (Int32) :=
  f_X4_isAnswer_L4 N mrn mfi mle mst msu mdi N 1 0
def f_X4_press_L128 (mth : Int32) (mrn : Int32) (msu : Nat → Int32) (mdi : Nat → Int32) : Nat → Int32 → (Nat → Int32) → Option (Int32 × Int32 × (Nat → Int32) × (Nat → Int32) × (Nat → Int32))
  | 0, _, _ => none
  | n128 + 1, v2_128, mgi_128 =>
    (if 16 ≤ v2_128 then some (mrn, mth, mgi_128, msu, mdi) else gd (inR v2_128 16) <| f_X4_press_L128 mth mrn msu mdi n128 (v2_128 + 1) (upd mgi_128 ((v2_128 : Int32)).toNatClampNeg 0))
def f_X4_press_L101 (N : Nat) (mrn : Int32) (mfi : Nat → Int32) (mle : Nat → Int32) (mst : Nat → Int32) (mdi : Nat → Int32) (k126 : (Nat → Int32) → Option (Int32 × Int32 × (Nat → Int32) × (Nat → Int32) × (Nat → Int32))) : Nat → Int32 → (Nat → Int32) → Option (Int32 × Int32 × (Nat → Int32) × (Nat → Int32) × (Nat → Int32))
  | 0, _, _ => none
  | n101 + 1, v2_101, msu_101 =>
    (if mrn ≤ v2_101 then k126 msu_101 else (f_X4_sumUp N mfi mle mst mdi v2_101).bind fun x116 => gd (inR v2_101 8) <| f_X4_press_L101 N mrn mfi mle mst mdi k126 n101 (v2_101 + 1) (upd msu_101 ((v2_101 : Int32)).toNatClampNeg x116))
def f_X4_press_L49 (N : Nat) (mrn : Int32) (mfi : Nat → Int32) (mle : Nat → Int32) (mst : Nat → Int32) (mdi : Nat → Int32) (k81 : Int32 → Option (Int32 × Int32 × (Nat → Int32) × (Nat → Int32) × (Nat → Int32))) : Nat → Int32 → Int32 → Option (Int32 × Int32 × (Nat → Int32) × (Nat → Int32) × (Nat → Int32))
  | 0, _, _ => none
  | n49 + 1, v1_49, v2_49 =>
    (if mrn ≤ v2_49 then k81 v1_49 else jn (fun (t0_74 : Int32) => f_X4_press_L49 N mrn mfi mle mst mdi k81 n49 t0_74 (v2_49 + 1)) fun k74 => jn (fun (_ : Unit) => k74 0) fun k73 => (if v1_49 = 0 then k73 () else (f_X4_isUnlike N mfi mle mst mdi v2_49).bind fun x63 => (if x63 = 0 then k73 () else k74 1)))
def f_X4_press_L8 (msz : Int32) (mba : Nat → Int32) (mgi : Nat → Int32) (k47 : Int32 → Option (Int32 × Int32 × (Nat → Int32) × (Nat → Int32) × (Nat → Int32))) : Nat → Int32 → Int32 → Option (Int32 × Int32 × (Nat → Int32) × (Nat → Int32) × (Nat → Int32))
  | 0, _, _ => none
  | n8 + 1, v1_8, v2_8 =>
    (if 16 ≤ v2_8 then k47 v1_8 else jn (fun (t0_40 : Int32) => f_X4_press_L8 msz mba mgi k47 n8 t0_40 (v2_8 + 1)) fun k40 => jn (fun (_ : Unit) => k40 0) fun k39 => (if v1_8 = 0 then k39 () else (f_X4_isOpen msz mba v2_8).bind fun x20 => jn (fun (_ : Unit) => k40 1) fun k35 => (if x20 = 0 then k35 () else gd (inR v2_8 16) <| (if (mgi ((v2_8 : Int32)).toNatClampNeg) ≤ 0 then k39 () else k35 ()))))
def f_X4_press (N : Nat) (mth : Int32) (msz : Int32) (mrn : Int32) (mba : Nat → Int32) (mgi : Nat → Int32) (mfi : Nat → Int32) (mle : Nat → Int32) (mst : Nat → Int32) (msu : Nat → Int32) (mdi : Nat → Int32) : Option (Int32 × Int32 × (Nat → Int32) × (Nat → Int32) × (Nat → Int32)) :=
  (f_X4_copyGiven N mgi mdi).bind fun x1 => jn (fun (v1_47 : Int32) => jn (fun (v1_81 : Int32) => jn (fun (t0_91 : Int32) => jn (f_X4_goesWell mth t0_91) fun x91 => (if x91.1 = 0 then some (0, x91.2, mgi, msu, x1) else jn (fun (msu_126 : Nat → Int32) => f_X4_press_L128 x91.2 mrn msu_126 x1 N 0 mgi) fun k126 => f_X4_press_L101 N mrn mfi mle mst x1 k126 N 0 msu)) fun k91 => (if v1_81 = 0 then k91 1 else k91 0)) fun k81 => f_X4_press_L49 N mrn mfi mle mst x1 k81 N v1_47 0) fun k47 => f_X4_press_L8 msz mba mgi k47 N 1 0
def f_X4_open (N : Nat) (mth : Int32) (msz : Int32) (mba : Nat → Int32) : Option (Int32 × Int32) :=
  (f_X4_countOpen N msz mba).bind fun x6 => some (x6, 0)
def f_X4_runs (mth : Int32) (mrn : Int32) : (Int32 × Int32) :=
  (mrn, 0)
def f_X4_firstOf (mth : Int32) (mrn : Int32) (mfi : Nat → Int32) (p1 : Int32) : Option (Int32 × Int32) :=
  (f_X4_isRun mrn p1).bind fun x3 => jn (fun (t0_14 : Int32) => jn (f_X4_goesWell mth t0_14) fun x14 => (if x14.1 = 0 then some (0, x14.2) else gd (inR p1 8) <| some ((mfi ((p1 : Int32)).toNatClampNeg), x14.2))) fun k14 => (if x3 = 0 then k14 1 else k14 0)
def f_X4_lengthOf (mth : Int32) (mrn : Int32) (mle : Nat → Int32) (p1 : Int32) : Option (Int32 × Int32) :=
  (f_X4_isRun mrn p1).bind fun x3 => jn (fun (t0_14 : Int32) => jn (f_X4_goesWell mth t0_14) fun x14 => (if x14.1 = 0 then some (0, x14.2) else gd (inR p1 8) <| some ((mle ((p1 : Int32)).toNatClampNeg), x14.2))) fun k14 => (if x3 = 0 then k14 1 else k14 0)
def f_X4_sumOf (mth : Int32) (mrn : Int32) (msu : Nat → Int32) (p1 : Int32) : Option (Int32 × Int32) :=
  (f_X4_isRun mrn p1).bind fun x3 => jn (fun (t0_14 : Int32) => jn (f_X4_goesWell mth t0_14) fun x14 => (if x14.1 = 0 then some (0, x14.2) else gd (inR p1 8) <| some ((msu ((p1 : Int32)).toNatClampNeg), x14.2))) fun k14 => (if x3 = 0 then k14 1 else k14 0)
def f_X4_digit (mth : Int32) (msz : Int32) (mba : Nat → Int32) (mgi : Nat → Int32) (p1 : Int32) : Option (Int32 × Int32) :=
  jn (fun (t0_14 : Int32) => jn (f_X4_goesWell mth t0_14) fun x14 => (if x14.1 = 0 then some (0, x14.2) else gd (inR p1 16) <| (if (mba ((p1 : Int32)).toNatClampNeg) = 0 then gd (inR p1 16) <| some ((mgi ((p1 : Int32)).toNatClampNeg), x14.2) else some ((-1), x14.2)))) fun k14 => (if (f_X4_isCell msz p1) = 0 then k14 1 else k14 0)
def f_X4_isGood_L34 (c1_34 : Int32) (c2_34 : Int32) (c4_34 : Int32) (mfi : Nat → Int32) (mle : Nat → Int32) (mst : Nat → Int32) (mdi : Nat → Int32) (k117 : Int32 → Int32 → Option (Int32)) : Nat → Int32 → Int32 → Int32 → Option (Int32)
  | 0, _, _, _ => none
  | n34 + 1, v3_34, v5_34, v6_34 =>
    gd (inR c4_34 8) <| (if (mle ((c4_34 : Int32)).toNatClampNeg) ≤ v6_34 then k117 v3_34 v5_34 else (f_X4_cellOf mfi mst c4_34 v6_34).bind fun x51 => jn (fun (t0_82 : Int32) => jn (fun (t0_109 : Int32) => f_X4_isGood_L34 c1_34 c2_34 c4_34 mfi mle mst mdi k117 n34 t0_82 t0_109 (v6_34 + 1)) fun k109 => jn (fun (_ : Unit) => k109 0) fun k108 => (if v5_34 = 0 then k108 () else jn (fun (_ : Unit) => k109 1) fun k104 => (if x51 = c1_34 then k104 () else gd (inR x51 16) <| (if (mdi ((x51 : Int32)).toNatClampNeg) ≤ 0 then k108 () else k104 ())))) fun k82 => jn (fun (_ : Unit) => k82 0) fun k81 => (if v3_34 = 0 then k81 () else jn (fun (_ : Unit) => k82 1) fun k77 => (if x51 = c1_34 then k77 () else gd (inR x51 16) <| (if (mdi ((x51 : Int32)).toNatClampNeg) = c2_34 then k81 () else k77 ()))))
def f_X4_isGood_L5 (N : Nat) (c1_5 : Int32) (c2_5 : Int32) (mrn : Int32) (mfi : Nat → Int32) (mle : Nat → Int32) (mst : Nat → Int32) (msu : Nat → Int32) (mdi : Nat → Int32) : Nat → Int32 → Int32 → Option (Int32)
  | 0, _, _ => none
  | n5 + 1, v3_5, v4_5 =>
    (if mrn ≤ v4_5 then gd (v3_5 = 0 ∨ v3_5 = 1) <| some v3_5 else (if v3_5 = 0 then gd (v3_5 = 0 ∨ v3_5 = 1) <| some v3_5 else (f_X4_has mfi mle mst v4_5 c1_5).bind fun x22 => jn (fun (v3_176 : Int32) => f_X4_isGood_L5 N c1_5 c2_5 mrn mfi mle mst msu mdi n5 v3_176 (v4_5 + 1)) fun k176 => (if x22 = 0 then k176 v3_5 else jn (fun (v3_117 : Int32) (v5_117 : Int32) => (f_X4_sumUp N mfi mle mst mdi v4_5).bind fun x120 => jn (fun (t0_175 : Int32) => k176 t0_175) fun k175 => jn (fun (_ : Unit) => k175 0) fun k174 => (if v3_117 = 0 then k174 () else gd (inR v4_5 8) <| jn (fun (_ : Unit) => k175 1) fun k170 => (if (msu ((v4_5 : Int32)).toNatClampNeg) = 0 then k170 () else gd (inR v4_5 8) <| (if (x120 + c2_5) = (msu ((v4_5 : Int32)).toNatClampNeg) then k170 () else gd (inR v4_5 8) <| (if (msu ((v4_5 : Int32)).toNatClampNeg) ≤ (x120 + c2_5) then k174 () else (if v5_117 = 0 then k170 () else k174 ())))))) fun k117 => f_X4_isGood_L34 c1_5 c2_5 v4_5 mfi mle mst mdi k117 N v3_5 1 0)))
def f_X4_isGood (N : Nat) (mrn : Int32) (mfi : Nat → Int32) (mle : Nat → Int32) (mst : Nat → Int32) (msu : Nat → Int32) (mdi : Nat → Int32) (p1 : Int32) (p2 : Int32) : Option (Int32) :=
  f_X4_isGood_L5 N p1 p2 mrn mfi mle mst msu mdi N 1 0
def f_X4_layTried_L11 (msz : Int32) (mba : Nat → Int32) (mgi : Nat → Int32) (mdi : Nat → Int32) : Nat → Int32 → Int32 → (Nat → Int32) → Option (Int32 × (Nat → Int32) × (Nat → Int32))
  | 0, _, _, _ => none
  | n11 + 1, v1_11, mmy_11, mtr_11 =>
    (if 16 ≤ v1_11 then some (mmy_11, mtr_11, mdi) else (f_X4_isOpen msz mba v1_11).bind fun x19 => jn (fun (mmy_54 : Int32) (mtr_54 : Nat → Int32) => f_X4_layTried_L11 msz mba mgi mdi n11 (v1_11 + 1) mmy_54 mtr_54) fun k54 => (if x19 = 0 then k54 mmy_11 mtr_11 else gd (inR v1_11 16) <| (if (mgi ((v1_11 : Int32)).toNatClampNeg) = 0 then gd (inR mmy_11 16) <| k54 (mmy_11 + 1) (upd mtr_11 ((mmy_11 : Int32)).toNatClampNeg v1_11) else k54 mmy_11 mtr_11)))
def f_X4_layTried (N : Nat) (msz : Int32) (mmy : Int32) (mba : Nat → Int32) (mgi : Nat → Int32) (mtr : Nat → Int32) (mdi : Nat → Int32) : Option (Int32 × (Nat → Int32) × (Nat → Int32)) :=
  (f_X4_copyGiven N mgi mdi).bind fun x1 => f_X4_layTried_L11 msz mba mgi x1 N 0 0 mtr
def f_X4_keep_L47 (c1_47 : Int32) (mdf : Int32) (mdi : Nat → Int32) : Nat → Int32 → (Nat → Int32) → Option (Int32 × (Nat → Int32))
  | 0, _, _ => none
  | n47 + 1, v2_47, mfa_47 =>
    (if 16 ≤ v2_47 then some (mdf, mfa_47) else (if c1_47 = 1 then gd (inR v2_47 16) <| gd (inR v2_47 16) <| f_X4_keep_L47 c1_47 mdf mdi n47 (v2_47 + 1) (upd mfa_47 ((v2_47 : Int32)).toNatClampNeg (mdi ((v2_47 : Int32)).toNatClampNeg)) else some (mdf, mfa_47)))
def f_X4_keep_L3 (c1_3 : Int32) (mdi : Nat → Int32) (mfa : Nat → Int32) (k45 : Int32 → Option (Int32 × (Nat → Int32))) : Nat → Int32 → Int32 → Option (Int32 × (Nat → Int32))
  | 0, _, _ => none
  | n3 + 1, v2_3, mdf_3 =>
    (if v2_3 < 0 then k45 mdf_3 else (if c1_3 = 2 then gd (inR v2_3 16) <| gd (inR v2_3 16) <| jn (fun (t0_36 : Int32) => f_X4_keep_L3 c1_3 mdi mfa k45 n3 (v2_3 + (-1)) t0_36) fun k36 => (if (mdi ((v2_3 : Int32)).toNatClampNeg) = (mfa ((v2_3 : Int32)).toNatClampNeg) then k36 mdf_3 else k36 v2_3) else k45 mdf_3))
def f_X4_keep (N : Nat) (mdf : Int32) (mdi : Nat → Int32) (mfa : Nat → Int32) (p1 : Int32) : Option (Int32 × (Nat → Int32)) :=
  jn (fun (mdf_45 : Int32) => f_X4_keep_L47 p1 mdf_45 mdi N 0 mfa) fun k45 => f_X4_keep_L3 p1 mdi mfa k45 N 15 mdf
def f_X4_attempt_L44 (N : Nat) (c1_44 : Int32) (mrn : Int32) (mmy : Int32) (mgu : Int32) (mfi : Nat → Int32) (mle : Nat → Int32) (mst : Nat → Int32) (msu : Nat → Int32) (mtr : Nat → Int32) (k117 : Int32 → (Nat → Int32) → (Nat → Int32) → Option (Int32 × Int32 × Int32 × Int32 × (Nat → Int32) × (Nat → Int32) × (Nat → Int32))) : Nat → Int32 → Int32 → Int32 → Int32 → Int32 → (Nat → Int32) → (Nat → Int32) → Option (Int32 × Int32 × Int32 × Int32 × (Nat → Int32) × (Nat → Int32) × (Nat → Int32))
  | 0, _, _, _, _, _, _, _ => none
  | n44 + 1, v2_44, v3_44, v4_44, v5_44, mdf_44, mdi_44, mfa_44 =>
    (if v4_44 < 0 then some (v2_44, mmy, mdf_44, mgu, mtr, mdi_44, mfa_44) else (if c1_44 ≤ v2_44 then some (v2_44, mmy, mdf_44, mgu, mtr, mdi_44, mfa_44) else gd (inR v4_44 16) <| gd (inR (mtr ((v4_44 : Int32)).toNatClampNeg) 16) <| jn (fun (v2_182 : Int32) (v3_182 : Int32) (v4_182 : Int32) (v5_182 : Int32) (mdf_182 : Int32) (mdi_182 : Nat → Int32) (mfa_182 : Nat → Int32) => f_X4_attempt_L44 N c1_44 mrn mmy mgu mfi mle mst msu mtr k117 n44 v2_182 v3_182 v4_182 v5_182 mdf_182 mdi_182 mfa_182) fun k182 => (if (v5_44 + 1) ≤ 9 then (if v3_44 = 20000 then k117 mdf_44 (upd mdi_44 (((mtr ((v4_44 : Int32)).toNatClampNeg) : Int32)).toNatClampNeg 0) mfa_44 else (f_X4_isGood N mrn mfi mle mst msu (upd mdi_44 (((mtr ((v4_44 : Int32)).toNatClampNeg) : Int32)).toNatClampNeg 0) (mtr ((v4_44 : Int32)).toNatClampNeg) (v5_44 + 1)).bind fun x132 => (if x132 = 0 then k182 v2_44 (v3_44 + 1) v4_44 (v5_44 + 1) mdf_44 (upd mdi_44 (((mtr ((v4_44 : Int32)).toNatClampNeg) : Int32)).toNatClampNeg 0) mfa_44 else gd (inR (mtr ((v4_44 : Int32)).toNatClampNeg) 16) <| (if (mmy - 1) ≤ v4_44 then (f_X4_isAnswer N mrn mfi mle mst msu (upd (upd mdi_44 (((mtr ((v4_44 : Int32)).toNatClampNeg) : Int32)).toNatClampNeg 0) (((mtr ((v4_44 : Int32)).toNatClampNeg) : Int32)).toNatClampNeg (v5_44 + 1))).bind fun x168 => (if x168 = 0 then k182 v2_44 (v3_44 + 1) v4_44 (v5_44 + 1) mdf_44 (upd (upd mdi_44 (((mtr ((v4_44 : Int32)).toNatClampNeg) : Int32)).toNatClampNeg 0) (((mtr ((v4_44 : Int32)).toNatClampNeg) : Int32)).toNatClampNeg (v5_44 + 1)) mfa_44 else (f_X4_keep N mdf_44 (upd (upd mdi_44 (((mtr ((v4_44 : Int32)).toNatClampNeg) : Int32)).toNatClampNeg 0) (((mtr ((v4_44 : Int32)).toNatClampNeg) : Int32)).toNatClampNeg (v5_44 + 1)) mfa_44 (v2_44 + 1)).bind fun x179 => k182 (v2_44 + 1) (v3_44 + 1) v4_44 (v5_44 + 1) x179.1 (upd (upd mdi_44 (((mtr ((v4_44 : Int32)).toNatClampNeg) : Int32)).toNatClampNeg 0) (((mtr ((v4_44 : Int32)).toNatClampNeg) : Int32)).toNatClampNeg (v5_44 + 1)) x179.2) else k182 v2_44 (v3_44 + 1) (v4_44 + 1) 0 mdf_44 (upd (upd mdi_44 (((mtr ((v4_44 : Int32)).toNatClampNeg) : Int32)).toNatClampNeg 0) (((mtr ((v4_44 : Int32)).toNatClampNeg) : Int32)).toNatClampNeg (v5_44 + 1)) mfa_44))) else jn (fun (t0_105 : Int32) => k182 v2_44 v3_44 (v4_44 + (-1)) t0_105 mdf_44 (upd mdi_44 (((mtr ((v4_44 : Int32)).toNatClampNeg) : Int32)).toNatClampNeg 0) mfa_44) fun k105 => (if (v4_44 + (-1)) < 0 then k105 0 else gd (inR (v4_44 + (-1)) 16) <| gd (inR (mtr (((v4_44 + (-1)) : Int32)).toNatClampNeg) 16) <| k105 ((upd mdi_44 (((mtr ((v4_44 : Int32)).toNatClampNeg) : Int32)).toNatClampNeg 0) (((mtr (((v4_44 + (-1)) : Int32)).toNatClampNeg) : Int32)).toNatClampNeg)))))
def f_X4_attempt (N : Nat) (msz : Int32) (mrn : Int32) (mmy : Int32) (mdf : Int32) (mgu : Int32) (mba : Nat → Int32) (mgi : Nat → Int32) (mfi : Nat → Int32) (mle : Nat → Int32) (mst : Nat → Int32) (msu : Nat → Int32) (mtr : Nat → Int32) (mdi : Nat → Int32) (mfa : Nat → Int32) (p1 : Int32) : Option (Int32 × Int32 × Int32 × Int32 × (Nat → Int32) × (Nat → Int32) × (Nat → Int32)) :=
  (f_X4_layTried N msz mmy mba mgi mtr mdi).bind fun x1 => (if x1.1 = 0 then (f_X4_isAnswer N mrn mfi mle mst msu x1.2.2).bind fun x22 => (if x22 = 0 then some (0, x1.1, (-1), 0, x1.2.1, x1.2.2, mfa) else some (1, x1.1, (-1), 0, x1.2.1, x1.2.2, mfa)) else jn (fun (mdf_117 : Int32) (mdi_117 : Nat → Int32) (mfa_117 : Nat → Int32) => some ((-1), x1.1, mdf_117, 1, x1.2.1, mdi_117, mfa_117)) fun k117 => f_X4_attempt_L44 N p1 mrn x1.1 0 mfi mle mst msu x1.2.1 k117 N 0 0 0 0 (-1) x1.2.2 mfa)
def f_X4_answers (N : Nat) (mth : Int32) (msz : Int32) (mrn : Int32) (mmy : Int32) (mdf : Int32) (mgu : Int32) (mba : Nat → Int32) (mgi : Nat → Int32) (mfi : Nat → Int32) (mle : Nat → Int32) (mst : Nat → Int32) (msu : Nat → Int32) (mtr : Nat → Int32) (mdi : Nat → Int32) (mfa : Nat → Int32) (p1 : Int32) : Option (Int32 × Int32 × Int32 × Int32 × Int32 × (Nat → Int32) × (Nat → Int32) × (Nat → Int32)) :=
  jn (fun (t0_15 : Int32) => jn (f_X4_goesWell mth t0_15) fun x15 => (if x15.1 = 0 then some (0, x15.2, mmy, mdf, mgu, mtr, mdi, mfa) else (f_X4_attempt N msz mrn mmy mdf mgu mba mgi mfi mle mst msu mtr mdi mfa p1).bind fun x23 => some (x23.1, x15.2, x23.2.1, x23.2.2.1, x23.2.2.2.1, x23.2.2.2.2.1, x23.2.2.2.2.2.1, x23.2.2.2.2.2.2))) fun k15 => (if (f_X4_in p1 1 5) = 0 then k15 1 else k15 0)
def f_X4_answersByAll_L64 (mmy : Int32) (mtr : Nat → Int32) (k105 : (Nat → Int32) → Option (Int32 × Int32 × Int32 × (Nat → Int32) × (Nat → Int32))) : Nat → Int32 → Int32 → (Nat → Int32) → Option (Int32 × Int32 × Int32 × (Nat → Int32) × (Nat → Int32))
  | 0, _, _, _ => none
  | n64 + 1, v4_64, v5_64, mdi_64 =>
    (if mmy ≤ v5_64 then k105 mdi_64 else gd (inR v5_64 16) <| gd (inR (mtr ((v5_64 : Int32)).toNatClampNeg) 16) <| f_X4_answersByAll_L64 mmy mtr k105 n64 (v4_64 / 9) (v5_64 + 1) (upd mdi_64 (((mtr ((v5_64 : Int32)).toNatClampNeg) : Int32)).toNatClampNeg (1 + (v4_64 - v4_64 / 9 * 9))))
def f_X4_answersByAll_L53 (N : Nat) (c1_53 : Int32) (mth : Int32) (mrn : Int32) (mmy : Int32) (mfi : Nat → Int32) (mle : Nat → Int32) (mst : Nat → Int32) (msu : Nat → Int32) (mtr : Nat → Int32) : Nat → Int32 → Int32 → (Nat → Int32) → Option (Int32 × Int32 × Int32 × (Nat → Int32) × (Nat → Int32))
  | 0, _, _, _ => none
  | n53 + 1, v2_53, v3_53, mdi_53 =>
    (if c1_53 ≤ v3_53 then some (v2_53, mth, mmy, mtr, mdi_53) else jn (fun (mdi_105 : Nat → Int32) => (f_X4_isAnswer N mrn mfi mle mst msu mdi_105).bind fun x107 => jn (fun (t0_118 : Int32) => f_X4_answersByAll_L53 N c1_53 mth mrn mmy mfi mle mst msu mtr n53 (v2_53 + t0_118) (v3_53 + 1) mdi_105) fun k118 => (if x107 = 0 then k118 0 else k118 1)) fun k105 => f_X4_answersByAll_L64 mmy mtr k105 N v3_53 0 mdi_53)
def f_X4_answersByAll_L30 (mmy : Int32) (k49 : Int32 → Option (Int32 × Int32 × Int32 × (Nat → Int32) × (Nat → Int32))) : Nat → Int32 → Int32 → Option (Int32 × Int32 × Int32 × (Nat → Int32) × (Nat → Int32))
  | 0, _, _ => none
  | n30 + 1, v1_30, v2_30 =>
    (if mmy ≤ v2_30 then k49 v1_30 else f_X4_answersByAll_L30 mmy k49 n30 (v1_30 * 9) (v2_30 + 1))
def f_X4_answersByAll (N : Nat) (mth : Int32) (msz : Int32) (mrn : Int32) (mmy : Int32) (mba : Nat → Int32) (mgi : Nat → Int32) (mfi : Nat → Int32) (mle : Nat → Int32) (mst : Nat → Int32) (msu : Nat → Int32) (mtr : Nat → Int32) (mdi : Nat → Int32) : Option (Int32 × Int32 × Int32 × (Nat → Int32) × (Nat → Int32)) :=
  (f_X4_layTried N msz mmy mba mgi mtr mdi).bind fun x1 => jn (fun (t0_18 : Int32) => jn (f_X4_goesWell mth t0_18) fun x18 => (if x18.1 = 0 then some (0, x18.2, x1.1, x1.2.1, x1.2.2) else jn (fun (v1_49 : Int32) => f_X4_answersByAll_L53 N v1_49 x18.2 mrn x1.1 mfi mle mst msu x1.2.1 N 0 0 x1.2.2) fun k49 => f_X4_answersByAll_L30 x1.1 k49 N 1 0)) fun k18 => (if x1.1 ≤ 4 then k18 0 else k18 1)
def f_X4_mend (N : Nat) (mth : Int32) (msz : Int32) (mrn : Int32) (mmy : Int32) (mdf : Int32) (mgu : Int32) (mba : Nat → Int32) (mgi : Nat → Int32) (mfi : Nat → Int32) (mle : Nat → Int32) (mst : Nat → Int32) (msu : Nat → Int32) (mtr : Nat → Int32) (mdi : Nat → Int32) (mfa : Nat → Int32) : Option (Int32 × Int32 × Int32 × Int32 × Int32 × (Nat → Int32) × (Nat → Int32) × (Nat → Int32) × (Nat → Int32)) :=
  (f_X4_attempt N msz mrn mmy mdf mgu mba mgi mfi mle mst msu mtr mdi mfa 2).bind fun x2 => jn (fun (t0_19 : Int32) => jn (f_X4_goesWell mth t0_19) fun x19 => (if x19.1 = 0 then some (0, x19.2, x2.2.1, x2.2.2.1, x2.2.2.2.1, mgi, x2.2.2.2.2.1, x2.2.2.2.2.2.1, x2.2.2.2.2.2.2) else (if 2 ≤ x2.1 then gd (inR x2.2.2.1 16) <| gd (inR x2.2.2.1 16) <| some (x2.2.2.1, x19.2, x2.2.1, x2.2.2.1, x2.2.2.2.1, (upd mgi ((x2.2.2.1 : Int32)).toNatClampNeg (x2.2.2.2.2.2.2 ((x2.2.2.1 : Int32)).toNatClampNeg)), x2.2.2.2.2.1, x2.2.2.2.2.2.1, x2.2.2.2.2.2.2) else some ((-1), x19.2, x2.2.1, x2.2.2.1, x2.2.2.2.1, mgi, x2.2.2.2.2.1, x2.2.2.2.2.2.1, x2.2.2.2.2.2.2)))) fun k19 => (if x2.2.2.2.1 = 0 then k19 0 else k19 1)
def f_X4_isSingle (p0 : Int32) : (Int32) :=
  jn (fun (_ : Unit) => 0) fun k16 => (if p0 = 0 then k16 () else (if (p0 &&& (p0 - 1)) = 0 then 1 else k16 ()))
def f_X4_take (mhs : Int32) (mca : Nat → Int32) (p1 : Int32) (p2 : Int32) : Option (Int32 × (Nat → Int32)) :=
  jn (fun (t0_24 : Int32) => gd (t0_24 = 0 ∨ t0_24 = 1) <| gd (inR p1 16) <| gd (inR p1 16) <| some (t0_24, (upd mca ((p1 : Int32)).toNatClampNeg ((mca ((p1 : Int32)).toNatClampNeg) &&& (p2 ^^^ (-1)))))) fun k24 => jn (fun (_ : Unit) => k24 1) fun k19 => (if mhs = 0 then gd (inR p1 16) <| (if ((mca ((p1 : Int32)).toNatClampNeg) &&& p2) = 0 then k24 0 else k19 ()) else k19 ())
def f_X4_goThroughSingles_L37 (c1_37 : Int32) (c2_37 : Int32) (c3_37 : Int32) (mfi : Nat → Int32) (mle : Nat → Int32) (mst : Nat → Int32) (k79 : Int32 → (Nat → Int32) → Option (Int32 × (Nat → Int32))) : Nat → Int32 → Int32 → (Nat → Int32) → Option (Int32 × (Nat → Int32))
  | 0, _, _, _ => none
  | n37 + 1, v4_37, mhs_37, mca_37 =>
    gd (inR c1_37 8) <| (if (mle ((c1_37 : Int32)).toNatClampNeg) ≤ v4_37 then k79 mhs_37 mca_37 else (if (f_X4_isSingle c3_37) = 0 then k79 mhs_37 mca_37 else jn (fun (mhs_73 : Int32) (mca_73 : Nat → Int32) => f_X4_goThroughSingles_L37 c1_37 c2_37 c3_37 mfi mle mst k79 n37 (v4_37 + 1) mhs_73 mca_73) fun k73 => (if v4_37 = c2_37 then k73 mhs_37 mca_37 else (f_X4_cellOf mfi mst c1_37 v4_37).bind fun x66 => (f_X4_take mhs_37 mca_37 x66 c3_37).bind fun x70 => k73 x70.1 x70.2)))
def f_X4_goThroughSingles_L12 (N : Nat) (c1_12 : Int32) (mfi : Nat → Int32) (mle : Nat → Int32) (mst : Nat → Int32) (k85 : Int32 → (Nat → Int32) → Option (Int32 × (Nat → Int32))) : Nat → Int32 → Int32 → (Nat → Int32) → Option (Int32 × (Nat → Int32))
  | 0, _, _, _ => none
  | n12 + 1, v2_12, mhs_12, mca_12 =>
    gd (inR c1_12 8) <| (if (mle ((c1_12 : Int32)).toNatClampNeg) ≤ v2_12 then k85 mhs_12 mca_12 else (f_X4_cellOf mfi mst c1_12 v2_12).bind fun x29 => gd (inR x29 16) <| jn (fun (mhs_79 : Int32) (mca_79 : Nat → Int32) => f_X4_goThroughSingles_L12 N c1_12 mfi mle mst k85 n12 (v2_12 + 1) mhs_79 mca_79) fun k79 => f_X4_goThroughSingles_L37 c1_12 v2_12 (mca_12 ((x29 : Int32)).toNatClampNeg) mfi mle mst k79 N 0 mhs_12 mca_12)
def f_X4_goThroughSingles_L2 (N : Nat) (mrn : Int32) (mfi : Nat → Int32) (mle : Nat → Int32) (mst : Nat → Int32) : Nat → Int32 → Int32 → (Nat → Int32) → Option (Int32 × (Nat → Int32))
  | 0, _, _, _ => none
  | n2 + 1, v1_2, mhs_2, mca_2 =>
    (if mrn ≤ v1_2 then some (mhs_2, mca_2) else jn (fun (mhs_85 : Int32) (mca_85 : Nat → Int32) => f_X4_goThroughSingles_L2 N mrn mfi mle mst n2 (v1_2 + 1) mhs_85 mca_85) fun k85 => f_X4_goThroughSingles_L12 N v1_2 mfi mle mst k85 N 0 mhs_2 mca_2)
def f_X4_goThroughSingles (N : Nat) (mrn : Int32) (mhs : Int32) (mfi : Nat → Int32) (mle : Nat → Int32) (mst : Nat → Int32) (mca : Nat → Int32) : Option (Int32 × (Nat → Int32)) :=
  f_X4_goThroughSingles_L2 N mrn mfi mle mst N 0 mhs mca
def f_X4_sumOfSet_L4 (c0_4 : Int32) : Nat → Int32 → Int32 → Option (Int32)
  | 0, _, _ => none
  | n4 + 1, v1_4, v2_4 =>
    (if 9 < v2_4 then some v1_4 else f_X4_sumOfSet_L4 c0_4 n4 (v1_4 + (((c0_4 >>> (v2_4 &&& 31)) &&& 1) * v2_4)) (v2_4 + 1))
def f_X4_sumOfSet (N : Nat) (p0 : Int32) : Option (Int32) :=
  f_X4_sumOfSet_L4 p0 N 0 1
def f_X4_bits_L4 (c0_4 : Int32) : Nat → Int32 → Int32 → Option (Int32)
  | 0, _, _ => none
  | n4 + 1, v1_4, v2_4 =>
    (if 9 < v2_4 then some v1_4 else f_X4_bits_L4 c0_4 n4 (v1_4 + ((c0_4 >>> (v2_4 &&& 31)) &&& 1)) (v2_4 + 1))
def f_X4_bits (N : Nat) (p0 : Int32) : Option (Int32) :=
  f_X4_bits_L4 p0 N 0 1
def f_X4_goThroughSets_L143 (c1_143 : Int32) (c3_143 : Int32) (mfi : Nat → Int32) (mle : Nat → Int32) (mst : Nat → Int32) (msu : Nat → Int32) (k187 : Int32 → (Nat → Int32) → Option (Int32 × (Nat → Int32))) : Nat → Int32 → Int32 → (Nat → Int32) → Option (Int32 × (Nat → Int32))
  | 0, _, _, _ => none
  | n143 + 1, v4_143, mhs_143, mca_143 =>
    gd (inR c1_143 8) <| (if (mle ((c1_143 : Int32)).toNatClampNeg) ≤ v4_143 then k187 mhs_143 mca_143 else gd (inR c1_143 8) <| (if (msu ((c1_143 : Int32)).toNatClampNeg) ≤ 0 then k187 mhs_143 mca_143 else (f_X4_cellOf mfi mst c1_143 v4_143).bind fun x168 => (f_X4_take mhs_143 mca_143 x168 (1022 &&& (c3_143 ^^^ (-1)))).bind fun x178 => f_X4_goThroughSets_L143 c1_143 c3_143 mfi mle mst msu k187 n143 (v4_143 + 1) x178.1 x178.2))
def f_X4_goThroughSets_L68 (N : Nat) (c1_68 : Int32) (c2_68 : Int32) (mle : Nat → Int32) (msu : Nat → Int32) (k140 : Int32 → Option (Int32 × (Nat → Int32))) : Nat → Int32 → Int32 → Option (Int32 × (Nat → Int32))
  | 0, _, _ => none
  | n68 + 1, v3_68, v4_68 =>
    (if 1022 < v4_68 then k140 v3_68 else (f_X4_bits N v4_68).bind fun x78 => gd (inR c1_68 8) <| jn (fun (t0_118 : Int32) => jn (fun (t0_132 : Int32) => f_X4_goThroughSets_L68 N c1_68 c2_68 mle msu k140 n68 (v3_68 ||| t0_132) (v4_68 + 2)) fun k132 => (if t0_118 = 0 then k132 0 else k132 v4_68)) fun k118 => jn (fun (_ : Unit) => k118 0) fun k117 => (if x78 = (mle ((c1_68 : Int32)).toNatClampNeg) then (f_X4_sumOfSet N v4_68).bind fun x92 => gd (inR c1_68 8) <| (if x92 = (msu ((c1_68 : Int32)).toNatClampNeg) then (if (c2_68 &&& (v4_68 ^^^ (-1))) = 0 then k118 1 else k117 ()) else k117 ()) else k117 ()))
def f_X4_goThroughSets_L17 (c1_17 : Int32) (mfi : Nat → Int32) (mle : Nat → Int32) (mst : Nat → Int32) (mca : Nat → Int32) (k65 : Int32 → Option (Int32 × (Nat → Int32))) : Nat → Int32 → Int32 → Option (Int32 × (Nat → Int32))
  | 0, _, _ => none
  | n17 + 1, v2_17, v4_17 =>
    gd (inR c1_17 8) <| (if (mle ((c1_17 : Int32)).toNatClampNeg) ≤ v4_17 then k65 v2_17 else (f_X4_cellOf mfi mst c1_17 v4_17).bind fun x36 => gd (inR x36 16) <| jn (fun (t0_57 : Int32) => f_X4_goThroughSets_L17 c1_17 mfi mle mst mca k65 n17 (v2_17 ||| t0_57) (v4_17 + 1)) fun k57 => (if (f_X4_isSingle (mca ((x36 : Int32)).toNatClampNeg)) = 0 then k57 0 else k57 (mca ((x36 : Int32)).toNatClampNeg)))
def f_X4_goThroughSets_L2 (N : Nat) (mrn : Int32) (mfi : Nat → Int32) (mle : Nat → Int32) (mst : Nat → Int32) (msu : Nat → Int32) : Nat → Int32 → Int32 → (Nat → Int32) → Option (Int32 × (Nat → Int32))
  | 0, _, _, _ => none
  | n2 + 1, v1_2, mhs_2, mca_2 =>
    (if mrn ≤ v1_2 then some (mhs_2, mca_2) else jn (fun (v2_65 : Int32) => jn (fun (v3_140 : Int32) => jn (fun (mhs_187 : Int32) (mca_187 : Nat → Int32) => f_X4_goThroughSets_L2 N mrn mfi mle mst msu n2 (v1_2 + 1) mhs_187 mca_187) fun k187 => f_X4_goThroughSets_L143 v1_2 v3_140 mfi mle mst msu k187 N 0 mhs_2 mca_2) fun k140 => f_X4_goThroughSets_L68 N v1_2 v2_65 mle msu k140 N 0 0) fun k65 => f_X4_goThroughSets_L17 v1_2 mfi mle mst mca_2 k65 N 0 0)
def f_X4_goThroughSets (N : Nat) (mrn : Int32) (mhs : Int32) (mfi : Nat → Int32) (mle : Nat → Int32) (mst : Nat → Int32) (msu : Nat → Int32) (mca : Nat → Int32) : Option (Int32 × (Nat → Int32)) :=
  f_X4_goThroughSets_L2 N mrn mfi mle mst msu N 0 mhs mca
def f_X4_canBe_L53 (c1_53 : Int32) (c2_53 : Int32) (c3_53 : Int32) (mfi : Nat → Int32) (mle : Nat → Int32) (mst : Nat → Int32) (mca : Nat → Int32) (k150 : Int32 → Int32 → Option (Int32)) : Nat → Int32 → Int32 → Int32 → Int32 → Option (Int32)
  | 0, _, _, _, _ => none
  | n53 + 1, v6_53, v7_53, v8_53, v9_53 =>
    gd (inR c1_53 8) <| (if (mle ((c1_53 : Int32)).toNatClampNeg) ≤ v9_53 then k150 v7_53 v8_53 else (if v8_53 = 0 then k150 v7_53 v8_53 else jn (fun (t0_133 : Int32) => f_X4_canBe_L53 c1_53 c2_53 c3_53 mfi mle mst mca k150 n53 (v6_53 / 9) (v7_53 ||| (1 <<< ((1 + (v6_53 - v6_53 / 9 * 9)) &&& 31))) t0_133 (v9_53 + 1)) fun k133 => jn (fun (_ : Unit) => k133 0) fun k132 => (if ((v7_53 >>> ((1 + (v6_53 - v6_53 / 9 * 9)) &&& 31)) &&& 1) = 0 then (f_X4_cellOf mfi mst c1_53 v9_53).bind fun x103 => gd (inR x103 16) <| (if (((mca ((x103 : Int32)).toNatClampNeg) >>> ((1 + (v6_53 - v6_53 / 9 * 9)) &&& 31)) &&& 1) = 1 then jn (fun (_ : Unit) => k133 1) fun k128 => (if v9_53 = c2_53 then (if (1 + (v6_53 - v6_53 / 9 * 9)) = c3_53 then k128 () else k132 ()) else k128 ()) else k132 ()) else k132 ())))
def f_X4_canBe_L33 (N : Nat) (c1_33 : Int32) (c2_33 : Int32) (c3_33 : Int32) (c4_33 : Int32) (mfi : Nat → Int32) (mle : Nat → Int32) (mst : Nat → Int32) (msu : Nat → Int32) (mca : Nat → Int32) : Nat → Int32 → Option (Int32)
  | 0, _ => none
  | n33 + 1, v5_33 =>
    (if c4_33 ≤ v5_33 then some 0 else jn (fun (v7_150 : Int32) (v8_150 : Int32) => jn (fun (_ : Unit) => f_X4_canBe_L33 N c1_33 c2_33 c3_33 c4_33 mfi mle mst msu mca n33 (v5_33 + 1)) fun k171 => (if v8_150 = 0 then k171 () else (f_X4_sumOfSet N v7_150).bind fun x157 => gd (inR c1_33 8) <| (if x157 = (msu ((c1_33 : Int32)).toNatClampNeg) then some 1 else k171 ()))) fun k150 => f_X4_canBe_L53 c1_33 c2_33 c3_33 mfi mle mst mca k150 N v5_33 0 1 0)
def f_X4_canBe_L6 (c1_6 : Int32) (mle : Nat → Int32) (k30 : Int32 → Option (Int32)) : Nat → Int32 → Int32 → Option (Int32)
  | 0, _, _ => none
  | n6 + 1, v4_6, v5_6 =>
    gd (inR c1_6 8) <| (if (mle ((c1_6 : Int32)).toNatClampNeg) ≤ v5_6 then k30 v4_6 else f_X4_canBe_L6 c1_6 mle k30 n6 (v4_6 * 9) (v5_6 + 1))
def f_X4_canBe (N : Nat) (mfi : Nat → Int32) (mle : Nat → Int32) (mst : Nat → Int32) (msu : Nat → Int32) (mca : Nat → Int32) (p1 : Int32) (p2 : Int32) (p3 : Int32) : Option (Int32) :=
  jn (fun (v4_30 : Int32) => f_X4_canBe_L33 N p1 p2 p3 v4_30 mfi mle mst msu mca N 0) fun k30 => f_X4_canBe_L6 p1 mle k30 N 1 0
def f_X4_goThroughRows_L33 (N : Nat) (c1_33 : Int32) (c2_33 : Int32) (mfi : Nat → Int32) (mle : Nat → Int32) (mst : Nat → Int32) (msu : Nat → Int32) (k99 : Int32 → (Nat → Int32) → Option (Int32 × (Nat → Int32))) : Nat → Int32 → Int32 → (Nat → Int32) → Option (Int32 × (Nat → Int32))
  | 0, _, _, _ => none
  | n33 + 1, v3_33, mhs_33, mca_33 =>
    (if 9 < v3_33 then k99 mhs_33 mca_33 else (f_X4_cellOf mfi mst c1_33 c2_33).bind fun x46 => gd (inR x46 16) <| jn (fun (t0_63 : Int32) => jn (fun (mhs_93 : Int32) (mca_93 : Nat → Int32) => f_X4_goThroughRows_L33 N c1_33 c2_33 mfi mle mst msu k99 n33 (v3_33 + 1) mhs_93 mca_93) fun k93 => (if t0_63 = 0 then k93 mhs_33 mca_33 else (f_X4_canBe N mfi mle mst msu mca_33 c1_33 c2_33 v3_33).bind fun x74 => (if x74 = 0 then (f_X4_cellOf mfi mst c1_33 c2_33).bind fun x84 => (f_X4_take mhs_33 mca_33 x84 (1 <<< (v3_33 &&& 31))).bind fun x90 => k93 x90.1 x90.2 else k93 mhs_33 mca_33))) fun k63 => (if (((mca_33 ((x46 : Int32)).toNatClampNeg) >>> (v3_33 &&& 31)) &&& 1) = 1 then k63 1 else k63 0))
def f_X4_goThroughRows_L12 (N : Nat) (c1_12 : Int32) (mfi : Nat → Int32) (mle : Nat → Int32) (mst : Nat → Int32) (msu : Nat → Int32) (k105 : Int32 → (Nat → Int32) → Option (Int32 × (Nat → Int32))) : Nat → Int32 → Int32 → (Nat → Int32) → Option (Int32 × (Nat → Int32))
  | 0, _, _, _ => none
  | n12 + 1, v2_12, mhs_12, mca_12 =>
    gd (inR c1_12 8) <| (if (mle ((c1_12 : Int32)).toNatClampNeg) ≤ v2_12 then k105 mhs_12 mca_12 else gd (inR c1_12 8) <| (if (msu ((c1_12 : Int32)).toNatClampNeg) ≤ 0 then k105 mhs_12 mca_12 else jn (fun (mhs_99 : Int32) (mca_99 : Nat → Int32) => f_X4_goThroughRows_L12 N c1_12 mfi mle mst msu k105 n12 (v2_12 + 1) mhs_99 mca_99) fun k99 => f_X4_goThroughRows_L33 N c1_12 v2_12 mfi mle mst msu k99 N 1 mhs_12 mca_12))
def f_X4_goThroughRows_L2 (N : Nat) (mrn : Int32) (mfi : Nat → Int32) (mle : Nat → Int32) (mst : Nat → Int32) (msu : Nat → Int32) : Nat → Int32 → Int32 → (Nat → Int32) → Option (Int32 × (Nat → Int32))
  | 0, _, _, _ => none
  | n2 + 1, v1_2, mhs_2, mca_2 =>
    (if mrn ≤ v1_2 then some (mhs_2, mca_2) else jn (fun (mhs_105 : Int32) (mca_105 : Nat → Int32) => f_X4_goThroughRows_L2 N mrn mfi mle mst msu n2 (v1_2 + 1) mhs_105 mca_105) fun k105 => f_X4_goThroughRows_L12 N v1_2 mfi mle mst msu k105 N 0 mhs_2 mca_2)
def f_X4_goThroughRows (N : Nat) (mrn : Int32) (mhs : Int32) (mfi : Nat → Int32) (mle : Nat → Int32) (mst : Nat → Int32) (msu : Nat → Int32) (mca : Nat → Int32) : Option (Int32 × (Nat → Int32)) :=
  f_X4_goThroughRows_L2 N mrn mfi mle mst msu N 0 mhs mca
def f_X4_isDead_L4 (msz : Int32) (mba : Nat → Int32) (mca : Nat → Int32) : Nat → Int32 → Int32 → Option (Int32)
  | 0, _, _ => none
  | n4 + 1, v1_4, v2_4 =>
    (if 16 ≤ v2_4 then gd (v1_4 = 0 ∨ v1_4 = 1) <| some v1_4 else jn (fun (t0_36 : Int32) => f_X4_isDead_L4 msz mba mca n4 t0_36 (v2_4 + 1)) fun k36 => jn (fun (_ : Unit) => k36 1) fun k31 => (if v1_4 = 0 then (f_X4_isOpen msz mba v2_4).bind fun x16 => jn (fun (_ : Unit) => k36 0) fun k35 => (if x16 = 0 then k35 () else gd (inR v2_4 16) <| (if (mca ((v2_4 : Int32)).toNatClampNeg) = 0 then k31 () else k35 ())) else k31 ()))
def f_X4_isDead (N : Nat) (msz : Int32) (mba : Nat → Int32) (mca : Nat → Int32) : Option (Int32) :=
  f_X4_isDead_L4 msz mba mca N 0 0
def f_X4_solve_L62 (N : Nat) (c1_62 : Int32) (msz : Int32) (mrn : Int32) (mba : Nat → Int32) (mfi : Nat → Int32) (mle : Nat → Int32) (mst : Nat → Int32) (msu : Nat → Int32) : Nat → Int32 → Int32 → Int32 → (Nat → Int32) → Option (Int32 × Int32 × (Nat → Int32))
  | 0, _, _, _, _ => none
  | n62 + 1, v2_62, mhs_62, mlv_62, mca_62 =>
    (if c1_62 < v2_62 then some (mhs_62, mlv_62, mca_62) else jn (fun (mhs_100 : Int32) (mca_100 : Nat → Int32) => jn (fun (t0_124 : Int32) => (f_X4_isDead N msz mba mca_100).bind fun x128 => (if x128 = 0 then jn (fun (t0_149 : Int32) => f_X4_solve_L62 N c1_62 msz mrn mba mfi mle mst msu n62 t0_149 mhs_100 t0_124 mca_100) fun k149 => (if mhs_100 = 0 then k149 (v2_62 + 1) else k149 1) else some (mhs_100, t0_124, mca_100))) fun k124 => jn (fun (_ : Unit) => k124 mlv_62) fun k120 => (if mhs_100 = 0 then k120 () else (if v2_62 ≤ mlv_62 then k120 () else k124 v2_62))) fun k100 => (if v2_62 = 1 then (f_X4_goThroughSingles N mrn 0 mfi mle mst mca_62).bind fun x78 => k100 x78.1 x78.2 else (if v2_62 = 2 then (f_X4_goThroughSets N mrn 0 mfi mle mst msu mca_62).bind fun x90 => k100 x90.1 x90.2 else (f_X4_goThroughRows N mrn 0 mfi mle mst msu mca_62).bind fun x97 => k100 x97.1 x97.2)))
def f_X4_solve_L7 (msz : Int32) (mba : Nat → Int32) (mgi : Nat → Int32) (k60 : (Nat → Int32) → Option (Int32 × Int32 × (Nat → Int32))) : Nat → Int32 → (Nat → Int32) → Option (Int32 × Int32 × (Nat → Int32))
  | 0, _, _ => none
  | n7 + 1, v2_7, mca_7 =>
    (if 16 ≤ v2_7 then k60 mca_7 else (f_X4_isOpen msz mba v2_7).bind fun x20 => jn (fun (t0_53 : Int32) => gd (inR v2_7 16) <| f_X4_solve_L7 msz mba mgi k60 n7 (v2_7 + 1) (upd mca_7 ((v2_7 : Int32)).toNatClampNeg t0_53)) fun k53 => (if x20 = 0 then k53 0 else gd (inR v2_7 16) <| (if (mgi ((v2_7 : Int32)).toNatClampNeg) ≤ 0 then k53 1022 else gd (inR v2_7 16) <| k53 (1 <<< ((mgi ((v2_7 : Int32)).toNatClampNeg) &&& 31)))))
def f_X4_solve (N : Nat) (msz : Int32) (mrn : Int32) (mhs : Int32) (mlv : Int32) (mba : Nat → Int32) (mgi : Nat → Int32) (mfi : Nat → Int32) (mle : Nat → Int32) (mst : Nat → Int32) (msu : Nat → Int32) (mca : Nat → Int32) (p1 : Int32) : Option (Int32 × Int32 × (Nat → Int32)) :=
  jn (fun (mca_60 : Nat → Int32) => f_X4_solve_L62 N p1 msz mrn mba mfi mle mst msu N 1 mhs 0 mca_60) fun k60 => f_X4_solve_L7 msz mba mgi k60 N 0 mca
def f_X4_level_L12 (mth : Int32) (msz : Int32) (mhs : Int32) (mlv : Int32) (mba : Nat → Int32) (mca : Nat → Int32) : Nat → Int32 → Option (Int32 × Int32 × Int32 × Int32 × (Nat → Int32))
  | 0, _ => none
  | n12 + 1, v1_12 =>
    (if 16 ≤ v1_12 then some (mlv, mth, mhs, mlv, mca) else (f_X4_isOpen msz mba v1_12).bind fun x20 => jn (fun (_ : Unit) => f_X4_level_L12 mth msz mhs mlv mba mca n12 (v1_12 + 1)) fun k40 => (if x20 = 0 then k40 () else gd (inR v1_12 16) <| (if (f_X4_isSingle (mca ((v1_12 : Int32)).toNatClampNeg)) = 0 then some ((-1), mth, mhs, mlv, mca) else k40 ())))
def f_X4_level (N : Nat) (mth : Int32) (msz : Int32) (mrn : Int32) (mhs : Int32) (mlv : Int32) (mba : Nat → Int32) (mgi : Nat → Int32) (mfi : Nat → Int32) (mle : Nat → Int32) (mst : Nat → Int32) (msu : Nat → Int32) (mca : Nat → Int32) : Option (Int32 × Int32 × Int32 × Int32 × (Nat → Int32)) :=
  (f_X4_solve N msz mrn mhs mlv mba mgi mfi mle mst msu mca 3).bind fun x7 => f_X4_level_L12 0 msz x7.1 x7.2.1 mba x7.2.2 N 0
def f_X4_candidates (N : Nat) (mth : Int32) (msz : Int32) (mrn : Int32) (mhs : Int32) (mlv : Int32) (mba : Nat → Int32) (mgi : Nat → Int32) (mfi : Nat → Int32) (mle : Nat → Int32) (mst : Nat → Int32) (msu : Nat → Int32) (mca : Nat → Int32) (p1 : Int32) (p2 : Int32) : Option (Int32 × Int32 × Int32 × Int32 × (Nat → Int32)) :=
  jn (fun (t0_27 : Int32) => jn (f_X4_goesWell mth t0_27) fun x27 => (if x27.1 = 0 then some (0, x27.2, mhs, mlv, mca) else (f_X4_solve N msz mrn mhs mlv mba mgi mfi mle mst msu mca p2).bind fun x37 => gd (inR p1 16) <| some ((x37.2.2 ((p1 : Int32)).toNatClampNeg), x27.2, x37.1, x37.2.1, x37.2.2))) fun k27 => (if (f_X4_isCell msz p1) = 0 then k27 1 else (if (f_X4_in p2 0 3) = 0 then k27 2 else k27 0))
def f_X4_find_L7 (msz : Int32) (mhs : Int32) (mlv : Int32) (mba : Nat → Int32) (mgi : Nat → Int32) (mca : Nat → Int32) : Nat → Int32 → Option (Int32 × Int32 × Int32 × (Nat → Int32))
  | 0, _ => none
  | n7 + 1, v2_7 =>
    (if 16 ≤ v2_7 then some ((-1), mhs, mlv, mca) else (f_X4_isOpen msz mba v2_7).bind fun x15 => jn (fun (_ : Unit) => f_X4_find_L7 msz mhs mlv mba mgi mca n7 (v2_7 + 1)) fun k44 => (if x15 = 0 then k44 () else gd (inR v2_7 16) <| (if (mgi ((v2_7 : Int32)).toNatClampNeg) = 0 then gd (inR v2_7 16) <| (if (f_X4_isSingle (mca ((v2_7 : Int32)).toNatClampNeg)) = 0 then k44 () else some (v2_7, mhs, mlv, mca)) else k44 ())))
def f_X4_find (N : Nat) (msz : Int32) (mrn : Int32) (mhs : Int32) (mlv : Int32) (mba : Nat → Int32) (mgi : Nat → Int32) (mfi : Nat → Int32) (mle : Nat → Int32) (mst : Nat → Int32) (msu : Nat → Int32) (mca : Nat → Int32) (p1 : Int32) : Option (Int32 × Int32 × Int32 × (Nat → Int32)) :=
  (f_X4_solve N msz mrn mhs mlv mba mgi mfi mle mst msu mca p1).bind fun x2 => f_X4_find_L7 msz x2.1 x2.2.1 mba mgi x2.2.2 N 0
def f_X4_hint_L13 (N : Nat) (mth : Int32) (msz : Int32) (mrn : Int32) (mba : Nat → Int32) (mgi : Nat → Int32) (mfi : Nat → Int32) (mle : Nat → Int32) (mst : Nat → Int32) (msu : Nat → Int32) : Nat → Int32 → Int32 → Int32 → Int32 → (Nat → Int32) → Option (Int32 × Int32 × Int32 × Int32 × (Nat → Int32))
  | 0, _, _, _, _, _ => none
  | n13 + 1, v1_13, v2_13, mhs_13, mlv_13, mca_13 =>
    (if v2_13 = (-1) then (if 3 ≤ v1_13 then some (v2_13, mth, mhs_13, mlv_13, mca_13) else (f_X4_find N msz mrn mhs_13 mlv_13 mba mgi mfi mle mst msu mca_13 (v1_13 + 1)).bind fun x28 => f_X4_hint_L13 N mth msz mrn mba mgi mfi mle mst msu n13 (v1_13 + 1) x28.1 x28.2.1 x28.2.2.1 x28.2.2.2) else some (v2_13, mth, mhs_13, mlv_13, mca_13))
def f_X4_hint (N : Nat) (mth : Int32) (msz : Int32) (mrn : Int32) (mhs : Int32) (mlv : Int32) (mba : Nat → Int32) (mgi : Nat → Int32) (mfi : Nat → Int32) (mle : Nat → Int32) (mst : Nat → Int32) (msu : Nat → Int32) (mca : Nat → Int32) : Option (Int32 × Int32 × Int32 × Int32 × (Nat → Int32)) :=
  (f_X4_find N msz mrn mhs mlv mba mgi mfi mle mst msu mca 1).bind fun x9 => f_X4_hint_L13 N 0 msz mrn mba mgi mfi mle mst msu N 1 x9.1 x9.2.1 x9.2.2.1 x9.2.2.2
def f_X4_hintRules_L7 (N : Nat) (mth : Int32) (msz : Int32) (mrn : Int32) (mba : Nat → Int32) (mgi : Nat → Int32) (mfi : Nat → Int32) (mle : Nat → Int32) (mst : Nat → Int32) (msu : Nat → Int32) : Nat → Int32 → Int32 → Int32 → (Nat → Int32) → Option (Int32 × Int32 × Int32 × Int32 × (Nat → Int32))
  | 0, _, _, _, _ => none
  | n7 + 1, v1_7, mhs_7, mlv_7, mca_7 =>
    (if 3 < v1_7 then some ((-1), mth, mhs_7, mlv_7, mca_7) else (f_X4_find N msz mrn mhs_7 mlv_7 mba mgi mfi mle mst msu mca_7 v1_7).bind fun x14 => (if x14.1 = (-1) then f_X4_hintRules_L7 N mth msz mrn mba mgi mfi mle mst msu n7 (v1_7 + 1) x14.2.1 x14.2.2.1 x14.2.2.2 else some (v1_7, mth, x14.2.1, x14.2.2.1, x14.2.2.2)))
def f_X4_hintRules (N : Nat) (mth : Int32) (msz : Int32) (mrn : Int32) (mhs : Int32) (mlv : Int32) (mba : Nat → Int32) (mgi : Nat → Int32) (mfi : Nat → Int32) (mle : Nat → Int32) (mst : Nat → Int32) (msu : Nat → Int32) (mca : Nat → Int32) : Option (Int32 × Int32 × Int32 × Int32 × (Nat → Int32)) :=
  f_X4_hintRules_L7 N 0 msz mrn mba mgi mfi mle mst msu N 1 mhs mlv mca
