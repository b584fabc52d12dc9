def f_J7_fill_53178_L5 (c1_5 : Int32) (c3_5 : Int32) (n : Nat) : Nat → Int32 → (Nat → Int32) → Option ((Nat → Int32))
  | 0, _, _ => none
  | n5 + 1, v2_5, row_5 =>
    (if c3_5 ≤ v2_5 then some row_5 else gd (inR v2_5 n) <| f_J7_fill_53178_L5 c1_5 c3_5 n n5 (v2_5 + 1) (upd row_5 ((v2_5 : Int32)).toNatClampNeg c1_5))
def f_J7_fill_53178 (N : Nat) (n : Nat) (row : Nat → Int32) (p1 : Int32) : Option ((Nat → Int32)) :=
  f_J7_fill_53178_L5 p1 (nI n) n N 0 row
def f_X0_hasCell (size : Int32) (p1 : Int32) : (Int32) :=
  jn (fun (_ : Unit) => 0) fun k34 => (if p1 < 0 then k34 () else (if 16 ≤ p1 then k34 () else (if size ≤ (p1 / 4) then k34 () else (if size ≤ (p1 - p1 / 4 * 4) then k34 () else 1))))
def f_X0_isOpen (size : Int32) (g : Nat → Int32) (p1 : Int32) : (Int32) :=
  jn (fun (_ : Unit) => 0) fun k24 => (if (f_X0_hasCell size p1) = 0 then k24 () else (if (f_X3_at 16 g p1) = (-1) then k24 () else 1))
def f_X0_addRun_L45 (c1_45 : Int32) (c2_45 : Int32) (c3_45 : Int32) (rc : Int32) (k86 : (Nat → Int32) → (Nat → Int32) → Option (Int32 × (Nat → Int32) × (Nat → Int32) × (Nat → Int32) × (Nat → Int32) × (Nat → Int32))) : Nat → Int32 → (Nat → Int32) → (Nat → Int32) → Option (Int32 × (Nat → Int32) × (Nat → Int32) × (Nat → Int32) × (Nat → Int32) × (Nat → Int32))
  | 0, _, _, _ => none
  | n45 + 1, v4_45, rr_45, cr_45 =>
    (if c3_45 ≤ v4_45 then k86 rr_45 cr_45 else (if c2_45 = 1 then f_X0_addRun_L45 c1_45 c2_45 c3_45 rc k86 n45 (v4_45 + 1) (f_X3_put 16 rr_45 (c1_45 + (v4_45 * c2_45)) rc) cr_45 else f_X0_addRun_L45 c1_45 c2_45 c3_45 rc k86 n45 (v4_45 + 1) rr_45 (f_X3_put 16 cr_45 (c1_45 + (v4_45 * c2_45)) rc)))
def f_X0_addRun (N : Nat) (rc : Int32) (fs : Nat → Int32) (st : Nat → Int32) (ln : Nat → Int32) (rr : Nat → Int32) (cr : Nat → Int32) (p1 : Int32) (p2 : Int32) (p3 : Int32) : Option (Int32 × (Nat → Int32) × (Nat → Int32) × (Nat → Int32) × (Nat → Int32) × (Nat → Int32)) :=
  (if 2 ≤ p3 then jn (fun (rr_86 : Nat → Int32) (cr_86 : Nat → Int32) => some ((rc + 1), (f_X3_put 8 fs rc p1), (f_X3_put 8 st rc p2), (f_X3_put 8 ln rc p3), rr_86, cr_86)) fun k86 => f_X0_addRun_L45 p1 p2 p3 rc k86 N 0 rr cr else some (rc, fs, st, ln, rr, cr))
def f_X0_findRunsOfLine_L5 (N : Nat) (c1_5 : Int32) (c2_5 : Int32) (size : Int32) (g : Nat → Int32) : Nat → Int32 → Int32 → Int32 → (Nat → Int32) → (Nat → Int32) → (Nat → Int32) → (Nat → Int32) → (Nat → Int32) → Option (Int32 × (Nat → Int32) × (Nat → Int32) × (Nat → Int32) × (Nat → Int32) × (Nat → Int32))
  | 0, _, _, _, _, _, _, _, _ => none
  | n5 + 1, v3_5, v4_5, rc_5, fs_5, st_5, ln_5, rr_5, cr_5 =>
    (if size < v4_5 then some (rc_5, fs_5, st_5, ln_5, rr_5, cr_5) else jn (fun (v3_58 : Int32) (rc_58 : Int32) (fs_58 : Nat → Int32) (st_58 : Nat → Int32) (ln_58 : Nat → Int32) (rr_58 : Nat → Int32) (cr_58 : Nat → Int32) => f_X0_findRunsOfLine_L5 N c1_5 c2_5 size g n5 v3_58 (v4_5 + 1) rc_58 fs_58 st_58 ln_58 rr_58 cr_58) fun k58 => jn (fun (_ : Unit) => (f_X0_addRun N rc_5 fs_5 st_5 ln_5 rr_5 cr_5 (c1_5 + ((v4_5 - v3_5) * c2_5)) c2_5 v3_5).bind fun x53 => k58 0 x53.1 x53.2.1 x53.2.2.1 x53.2.2.2.1 x53.2.2.2.2.1 x53.2.2.2.2.2) fun k42 => (if size ≤ v4_5 then k42 () else (if (f_X0_isOpen size g (c1_5 + (v4_5 * c2_5))) = 0 then k42 () else k58 (v3_5 + 1) rc_5 fs_5 st_5 ln_5 rr_5 cr_5)))
def f_X0_findRunsOfLine (N : Nat) (size : Int32) (rc : Int32) (g : Nat → Int32) (fs : Nat → Int32) (st : Nat → Int32) (ln : Nat → Int32) (rr : Nat → Int32) (cr : Nat → Int32) (p1 : Int32) (p2 : Int32) : Option (Int32 × (Nat → Int32) × (Nat → Int32) × (Nat → Int32) × (Nat → Int32) × (Nat → Int32)) :=
  f_X0_findRunsOfLine_L5 N p1 p2 size g N 0 0 rc fs st ln rr cr
def f_X0_findRuns_L55 (N : Nat) (size : Int32) (g : Nat → Int32) (su : Nat → Int32) : Nat → Int32 → Int32 → (Nat → Int32) → (Nat → Int32) → (Nat → Int32) → (Nat → Int32) → (Nat → Int32) → Option (Int32 × (Nat → Int32) × (Nat → Int32) × (Nat → Int32) × (Nat → Int32) × (Nat → Int32) × (Nat → Int32))
  | 0, _, _, _, _, _, _, _ => none
  | n55 + 1, v1_55, rc_55, fs_55, st_55, ln_55, rr_55, cr_55 =>
    (if size ≤ v1_55 then some (rc_55, fs_55, st_55, ln_55, su, rr_55, cr_55) else (f_X0_findRunsOfLine N size rc_55 g fs_55 st_55 ln_55 rr_55 cr_55 v1_55 4).bind fun x66 => f_X0_findRuns_L55 N size g su n55 (v1_55 + 1) x66.1 x66.2.1 x66.2.2.1 x66.2.2.2.1 x66.2.2.2.2.1 x66.2.2.2.2.2)
def f_X0_findRuns_L31 (N : Nat) (size : Int32) (g : Nat → Int32) (k53 : Int32 → (Nat → Int32) → (Nat → Int32) → (Nat → Int32) → (Nat → Int32) → (Nat → Int32) → Option (Int32 × (Nat → Int32) × (Nat → Int32) × (Nat → Int32) × (Nat → Int32) × (Nat → Int32) × (Nat → Int32))) : Nat → Int32 → Int32 → (Nat → Int32) → (Nat → Int32) → (Nat → Int32) → (Nat → Int32) → (Nat → Int32) → Option (Int32 × (Nat → Int32) × (Nat → Int32) × (Nat → Int32) × (Nat → Int32) × (Nat → Int32) × (Nat → Int32))
  | 0, _, _, _, _, _, _, _ => none
  | n31 + 1, v1_31, rc_31, fs_31, st_31, ln_31, rr_31, cr_31 =>
    (if size ≤ v1_31 then k53 rc_31 fs_31 st_31 ln_31 rr_31 cr_31 else (f_X0_findRunsOfLine N size rc_31 g fs_31 st_31 ln_31 rr_31 cr_31 (v1_31 * 4) 1).bind fun x44 => f_X0_findRuns_L31 N size g k53 n31 (v1_31 + 1) x44.1 x44.2.1 x44.2.2.1 x44.2.2.2.1 x44.2.2.2.2.1 x44.2.2.2.2.2)
def f_X0_findRuns (N : Nat) (size : Int32) (rc : Int32) (g : Nat → Int32) (fs : Nat → Int32) (st : Nat → Int32) (ln : Nat → Int32) (su : Nat → Int32) (rr : Nat → Int32) (cr : Nat → Int32) : Option (Int32 × (Nat → Int32) × (Nat → Int32) × (Nat → Int32) × (Nat → Int32) × (Nat → Int32) × (Nat → Int32)) :=
  (f_J7_fill_53178 N 8 su 0).bind fun x10 => (f_J7_fill_53178 N 16 rr (-1)).bind fun x18 => (f_J7_fill_53178 N 16 cr (-1)).bind fun x26 => jn (fun (rc_53 : Int32) (fs_53 : Nat → Int32) (st_53 : Nat → Int32) (ln_53 : Nat → Int32) (rr_53 : Nat → Int32) (cr_53 : Nat → Int32) => f_X0_findRuns_L55 N size g x10 N 0 rc_53 fs_53 st_53 ln_53 rr_53 cr_53) fun k53 => f_X0_findRuns_L31 N size g k53 N 0 0 fs st ln x18 x26
def f_X0_clear (N : Nat) (size : Int32) (rc : Int32) (g : Nat → Int32) (fs : Nat → Int32) (st : Nat → Int32) (ln : Nat → Int32) (su : Nat → Int32) (rr : Nat → Int32) (cr : Nat → Int32) (p1 : Int32) : Option (Int32 × Int32 × (Nat → Int32) × (Nat → Int32) × (Nat → Int32) × (Nat → Int32) × (Nat → Int32) × (Nat → Int32) × (Nat → Int32)) :=
  (f_J7_fill_53178 N 16 g 0).bind fun x10 => (f_X0_findRuns N p1 rc x10 fs st ln su rr cr).bind fun x14 => some (p1, x14.1, x10, x14.2.1, x14.2.2.1, x14.2.2.2.1, x14.2.2.2.2.1, x14.2.2.2.2.2.1, x14.2.2.2.2.2.2)
def f_X0_turn (N : Nat) (size : Int32) (rc : Int32) (g : Nat → Int32) (fs : Nat → Int32) (st : Nat → Int32) (ln : Nat → Int32) (su : Nat → Int32) (rr : Nat → Int32) (cr : Nat → Int32) (p1 : Int32) : Option (Int32 × (Nat → Int32) × (Nat → Int32) × (Nat → Int32) × (Nat → Int32) × (Nat → Int32) × (Nat → Int32) × (Nat → Int32)) :=
  jn (fun (t0_18 : Int32) => (f_X0_findRuns N size rc (f_X3_put 16 g p1 t0_18) fs st ln su rr cr).bind fun x22 => some (x22.1, (f_X3_put 16 g p1 t0_18), x22.2.1, x22.2.2.1, x22.2.2.2.1, x22.2.2.2.2.1, x22.2.2.2.2.2.1, x22.2.2.2.2.2.2)) fun k18 => (if (f_X0_isOpen size g p1) = 0 then k18 0 else k18 (-1))
def f_X0_oppositeOf (size : Int32) (p1 : Int32) : (Int32) :=
  ((((size - 1) - (p1 / 4)) * 4) + ((size - 1) - (p1 - p1 / 4 * 4)))
def f_X0_countOpen_L4 (size : Int32) (g : Nat → Int32) : Nat → Int32 → Int32 → Option (Int32)
  | 0, _, _ => none
  | n4 + 1, v1_4, v2_4 =>
    (if 16 ≤ v2_4 then some v1_4 else jn (fun (v1_21 : Int32) => f_X0_countOpen_L4 size g n4 v1_21 (v2_4 + 1)) fun k21 => (if (f_X0_isOpen size g v2_4) = 0 then k21 v1_4 else k21 (v1_4 + 1)))
def f_X0_countOpen (N : Nat) (size : Int32) (g : Nat → Int32) : Option (Int32) :=
  f_X0_countOpen_L4 size g N 0 0
def f_X0_countBarred (N : Nat) (size : Int32) (g : Nat → Int32) : Option (Int32) :=
  (f_X0_countOpen N size g).bind fun x10 => some ((size * size) - x10)
def f_X0_givenAt (g : Nat → Int32) (p1 : Int32) : (Int32) :=
  (f_X3_at 16 g p1)
def f_X0_putGiven (g : Nat → Int32) (p1 : Int32) (p2 : Int32) : ((Nat → Int32)) :=
  (f_X3_put 16 g p1 p2)
def f_X0_hasRun (rc : Int32) (p1 : Int32) : (Int32) :=
  jn (fun (_ : Unit) => 0) fun k16 => (if p1 < 0 then k16 () else (if rc ≤ p1 then k16 () else 1))
def f_X0_sumAt (su : Nat → Int32) (p1 : Int32) : (Int32) :=
  (f_X3_at 8 su p1)
def f_X0_putSum (su : Nat → Int32) (p1 : Int32) (p2 : Int32) : ((Nat → Int32)) :=
  (f_X3_put 8 su p1 p2)
def f_X0_isBlank (size : Int32) (g : Nat → Int32) (p1 : Int32) : (Int32) :=
  jn (fun (_ : Unit) => 0) fun k23 => (if (f_X0_hasCell size p1) = 0 then k23 () else (if (f_X3_at 16 g p1) = 0 then 1 else k23 ()))
def f_X0_countBlanks_L4 (size : Int32) (g : Nat → Int32) : Nat → Int32 → Int32 → Option (Int32)
  | 0, _, _ => none
  | n4 + 1, v1_4, v2_4 =>
    (if 16 ≤ v2_4 then some v1_4 else jn (fun (v1_21 : Int32) => f_X0_countBlanks_L4 size g n4 v1_21 (v2_4 + 1)) fun k21 => (if (f_X0_isBlank size g v2_4) = 0 then k21 v1_4 else k21 (v1_4 + 1)))
def f_X0_countBlanks (N : Nat) (size : Int32) (g : Nat → Int32) : Option (Int32) :=
  f_X0_countBlanks_L4 size g N 0 0
def f_X0_isFilled (N : Nat) (size : Int32) (g : Nat → Int32) : Option (Int32) :=
  (f_X0_countBlanks N size g).bind fun x1 => (if x1 = 0 then some 1 else some 0)
def f_X0_lengthAt (ln : Nat → Int32) (p1 : Int32) : (Int32) :=
  (f_X3_at 8 ln p1)
def f_X0_cellAt (fs : Nat → Int32) (st : Nat → Int32) (p1 : Int32) (p2 : Int32) : (Int32) :=
  ((f_X3_at 8 fs p1) + (p2 * (f_X3_at 8 st p1)))
def f_X0_hasTwice_L12 (c1_12 : Int32) (c4_12 : Int32) (fs : Nat → Int32) (st : Nat → Int32) (xf : Nat → Int32) : Nat → Int32 → Int32 → Option (Int32)
  | 0, _, _ => none
  | n12 + 1, v3_12, v5_12 =>
    (if c4_12 ≤ v5_12 then some 0 else (if (v3_12 &&& (1 <<< ((f_X3_at 16 xf (f_X0_cellAt fs st c1_12 v5_12)) &&& 31))) = 0 then f_X0_hasTwice_L12 c1_12 c4_12 fs st xf n12 (v3_12 ||| (1 <<< ((f_X3_at 16 xf (f_X0_cellAt fs st c1_12 v5_12)) &&& 31))) (v5_12 + 1) else some 1))
def f_X0_hasTwice (N : Nat) (fs : Nat → Int32) (st : Nat → Int32) (ln : Nat → Int32) (xf : Nat → Int32) (p1 : Int32) : Option (Int32) :=
  f_X0_hasTwice_L12 p1 (f_X0_lengthAt ln p1) fs st xf N 0 0
def f_X0_givesTwice_L2 (N : Nat) (rc : Int32) (g : Nat → Int32) (fs : Nat → Int32) (st : Nat → Int32) (ln : Nat → Int32) : Nat → Int32 → Option (Int32)
  | 0, _ => none
  | n2 + 1, v1_2 =>
    (if rc ≤ v1_2 then some 0 else (f_X0_hasTwice N fs st ln g v1_2).bind fun x16 => (if x16 = 0 then f_X0_givesTwice_L2 N rc g fs st ln n2 (v1_2 + 1) else some 1))
def f_X0_givesTwice (N : Nat) (rc : Int32) (g : Nat → Int32) (fs : Nat → Int32) (st : Nat → Int32) (ln : Nat → Int32) : Option (Int32) :=
  f_X0_givesTwice_L2 N rc g fs st ln N 0
def f_X0_totalOf_L12 (c1_12 : Int32) (c4_12 : Int32) (fs : Nat → Int32) (st : Nat → Int32) (xf : Nat → Int32) : Nat → Int32 → Int32 → Option (Int32)
  | 0, _, _ => none
  | n12 + 1, v3_12, v5_12 =>
    (if c4_12 ≤ v5_12 then some v3_12 else f_X0_totalOf_L12 c1_12 c4_12 fs st xf n12 (v3_12 + (f_X3_at 16 xf (f_X0_cellAt fs st c1_12 v5_12))) (v5_12 + 1))
def f_X0_totalOf (N : Nat) (fs : Nat → Int32) (st : Nat → Int32) (ln : Nat → Int32) (xf : Nat → Int32) (p1 : Int32) : Option (Int32) :=
  f_X0_totalOf_L12 p1 (f_X0_lengthAt ln p1) fs st xf N 0 0
def f_X0_sumAndEmpty_L35 (size : Int32) (su : Nat → Int32) : Nat → Int32 → (Nat → Int32) → Option ((Nat → Int32) × (Nat → Int32))
  | 0, _, _ => none
  | n35 + 1, v1_35, g_35 =>
    (if 16 ≤ v1_35 then some (g_35, su) else jn (fun (g_58 : Nat → Int32) => f_X0_sumAndEmpty_L35 size su n35 (v1_35 + 1) g_58) fun k58 => (if (f_X0_isOpen size g_35 v1_35) = 0 then k58 g_35 else k58 (f_X3_put 16 g_35 v1_35 0)))
def f_X0_sumAndEmpty_L2 (N : Nat) (rc : Int32) (g : Nat → Int32) (fs : Nat → Int32) (st : Nat → Int32) (ln : Nat → Int32) (k33 : (Nat → Int32) → Option ((Nat → Int32) × (Nat → Int32))) : Nat → Int32 → (Nat → Int32) → Option ((Nat → Int32) × (Nat → Int32))
  | 0, _, _ => none
  | n2 + 1, v1_2, su_2 =>
    (if rc ≤ v1_2 then k33 su_2 else (f_X0_totalOf N fs st ln g v1_2).bind fun x21 => f_X0_sumAndEmpty_L2 N rc g fs st ln k33 n2 (v1_2 + 1) (f_X3_put 8 su_2 v1_2 x21))
def f_X0_sumAndEmpty (N : Nat) (size : Int32) (rc : Int32) (g : Nat → Int32) (fs : Nat → Int32) (st : Nat → Int32) (ln : Nat → Int32) (su : Nat → Int32) : Option ((Nat → Int32) × (Nat → Int32)) :=
  jn (fun (su_33 : Nat → Int32) => f_X0_sumAndEmpty_L35 size su_33 N 0 g) fun k33 => f_X0_sumAndEmpty_L2 N rc g fs st ln k33 N 0 su
def f_X0_countRuns (rc : Int32) : (Int32) :=
  rc
def f_X0_firstAt (fs : Nat → Int32) (p1 : Int32) : (Int32) :=
  (f_X3_at 8 fs p1)
def f_X2_start_L7 (size : Int32) (g : Nat → Int32) : Nat → Int32 → Int32 → (Nat → Int32) → (Nat → Int32) → (Nat → Int32) → Option (Int32 × (Nat → Int32) × (Nat → Int32) × (Nat → Int32))
  | 0, _, _, _, _, _ => none
  | n7 + 1, v1_7, bc_7, bl_7, td_7, fi_7 =>
    (if 16 ≤ v1_7 then some (bc_7, bl_7, td_7, fi_7) else jn (fun (t0_50 : Int32) => jn (fun (bc_86 : Int32) (bl_86 : Nat → Int32) => f_X2_start_L7 size g n7 (v1_7 + 1) bc_86 bl_86 (f_X3_put 16 td_7 v1_7 0) (f_X3_put 16 fi_7 v1_7 t0_50)) fun k86 => (if (f_X0_isBlank size g v1_7) = 0 then k86 bc_7 bl_7 else k86 (bc_7 + 1) (f_X3_put 16 bl_7 bc_7 v1_7))) fun k50 => (if (f_X0_isOpen size g v1_7) = 0 then k50 0 else k50 (f_X0_givenAt g v1_7)))
def f_X2_start (N : Nat) (size : Int32) (g : Nat → Int32) (bc : Int32) (bl : Nat → Int32) (td : Nat → Int32) (fi : Nat → Int32) : Option (Int32 × (Nat → Int32) × (Nat → Int32) × (Nat → Int32)) :=
  f_X2_start_L7 size g N 0 0 bl td fi
def f_X0_isAnswer_L2 (N : Nat) (rc : Int32) (fs : Nat → Int32) (st : Nat → Int32) (ln : Nat → Int32) (su : Nat → Int32) (xf : Nat → Int32) : Nat → Int32 → Option (Int32)
  | 0, _ => none
  | n2 + 1, v2_2 =>
    (if rc ≤ v2_2 then some 1 else (f_X0_hasTwice N fs st ln xf v2_2).bind fun x19 => (if x19 = 0 then jn (fun (_ : Unit) => f_X0_isAnswer_L2 N rc fs st ln su xf n2 (v2_2 + 1)) fun k41 => (if (f_X0_sumAt su v2_2) = 0 then k41 () else (f_X0_totalOf N fs st ln xf v2_2).bind fun x32 => (if x32 = (f_X0_sumAt su v2_2) then k41 () else some 0)) else some 0))
def f_X0_isAnswer (N : Nat) (rc : Int32) (fs : Nat → Int32) (st : Nat → Int32) (ln : Nat → Int32) (su : Nat → Int32) (xf : Nat → Int32) : Option (Int32) :=
  f_X0_isAnswer_L2 N rc fs st ln su xf N 0
def f_X0_rowRunOf (rr : Nat → Int32) (p1 : Int32) : (Int32) :=
  (f_X3_at 16 rr p1)
def f_X2_suits_L25 (c1_25 : Int32) (c2_25 : Int32) (c5_25 : Int32) (fs : Nat → Int32) (st : Nat → Int32) (fi : Nat → Int32) (k80 : Int32 → Int32 → Option (Int32)) : Nat → Int32 → Int32 → Int32 → Option (Int32)
  | 0, _, _, _ => none
  | n25 + 1, v3_25, v4_25, v6_25 =>
    (if c5_25 ≤ v6_25 then k80 v3_25 v4_25 else (if (f_X3_at 16 fi (f_X0_cellAt fs st c1_25 v6_25)) = c2_25 then some 0 else jn (fun (v3_67 : Int32) => f_X2_suits_L25 c1_25 c2_25 c5_25 fs st fi k80 n25 v3_67 (v4_25 + (f_X3_at 16 fi (f_X0_cellAt fs st c1_25 v6_25))) (v6_25 + 1)) fun k67 => (if (f_X3_at 16 fi (f_X0_cellAt fs st c1_25 v6_25)) = 0 then k67 (v3_25 + 1) else k67 v3_25)))
def f_X2_suits (N : Nat) (fs : Nat → Int32) (st : Nat → Int32) (ln : Nat → Int32) (su : Nat → Int32) (fi : Nat → Int32) (p1 : Int32) (p2 : Int32) : Option (Int32) :=
  (if p1 = (-1) then some 1 else jn (fun (v3_80 : Int32) (v4_80 : Int32) => (if (f_X0_sumAt su p1) = 0 then some 1 else (if v3_80 ≤ 1 then (if v4_80 = (f_X0_sumAt su p1) then some 1 else some 0) else (if (f_X0_sumAt su p1) < v4_80 then some 0 else some 1)))) fun k80 => f_X2_suits_L25 p1 p2 (f_X0_lengthAt ln p1) fs st fi k80 N 0 p2 0)
def f_X0_columnRunOf (cr : Nat → Int32) (p1 : Int32) : (Int32) :=
  (f_X3_at 16 cr p1)
def f_X2_tryNext (N : Nat) (fs : Nat → Int32) (st : Nat → Int32) (ln : Nat → Int32) (su : Nat → Int32) (rr : Nat → Int32) (cr : Nat → Int32) (td : Nat → Int32) (fi : Nat → Int32) (p1 : Int32) : Option (Int32 × (Nat → Int32) × (Nat → Int32)) :=
  (f_X2_suits N fs st ln su (f_X3_put 16 fi p1 0) (f_X0_rowRunOf rr p1) ((f_X3_at 16 td p1) + 1)).bind fun x39 => (if x39 = 0 then some (0, (f_X3_put 16 td p1 ((f_X3_at 16 td p1) + 1)), (f_X3_put 16 fi p1 0)) else (f_X2_suits N fs st ln su (f_X3_put 16 fi p1 0) (f_X0_columnRunOf cr p1) ((f_X3_at 16 td p1) + 1)).bind fun x55 => (if x55 = 0 then some (0, (f_X3_put 16 td p1 ((f_X3_at 16 td p1) + 1)), (f_X3_put 16 fi p1 0)) else some (1, (f_X3_put 16 td p1 ((f_X3_at 16 td p1) + 1)), (f_X3_put 16 (f_X3_put 16 fi p1 0) p1 ((f_X3_at 16 td p1) + 1)))))
def f_X2_keepFirstAnswer_L2 (fi : Nat → Int32) : Nat → Int32 → (Nat → Int32) → Option ((Nat → Int32))
  | 0, _, _ => none
  | n2 + 1, v1_2, fa_2 =>
    (if 16 ≤ v1_2 then some fa_2 else f_X2_keepFirstAnswer_L2 fi n2 (v1_2 + 1) (f_X3_put 16 fa_2 v1_2 (f_X3_at 16 fi v1_2)))
def f_X2_keepFirstAnswer (N : Nat) (fi : Nat → Int32) (fa : Nat → Int32) : Option ((Nat → Int32)) :=
  f_X2_keepFirstAnswer_L2 fi N 0 fa
def f_X2_backFrom_L2 (bl : Nat → Int32) : Nat → Int32 → (Nat → Int32) → (Nat → Int32) → Option (Int32 × (Nat → Int32) × (Nat → Int32))
  | 0, _, _, _ => none
  | n2 + 1, v2_2, td_2, fi_2 =>
    (if v2_2 < 0 then some (v2_2, td_2, fi_2) else (if (f_X3_at 16 td_2 (f_X3_at 16 bl v2_2)) < 9 then some (v2_2, td_2, fi_2) else f_X2_backFrom_L2 bl n2 (v2_2 + (-1)) (f_X3_put 16 td_2 (f_X3_at 16 bl v2_2) 0) (f_X3_put 16 fi_2 (f_X3_at 16 bl v2_2) 0)))
def f_X2_backFrom (N : Nat) (bl : Nat → Int32) (td : Nat → Int32) (fi : Nat → Int32) (p1 : Int32) : Option (Int32 × (Nat → Int32) × (Nat → Int32)) :=
  f_X2_backFrom_L2 bl N p1 td fi
def f_X2_find_L38 (N : Nat) (c1_38 : Int32) (rc : Int32) (fs : Nat → Int32) (st : Nat → Int32) (ln : Nat → Int32) (su : Nat → Int32) (rr : Nat → Int32) (cr : Nat → Int32) (bc : Int32) (bl : Nat → Int32) : Nat → Int32 → Int32 → Int32 → (Nat → Int32) → (Nat → Int32) → (Nat → Int32) → Option (Int32 × Int32 × (Nat → Int32) × (Nat → Int32) × (Nat → Int32) × (Nat → Int32))
  | 0, _, _, _, _, _, _ => none
  | n38 + 1, v2_38, v3_38, v4_38, td_38, fi_38, fa_38 =>
    (if 20000 ≤ v4_38 then some ((-1), bc, bl, td_38, fi_38, fa_38) else (f_X2_tryNext N fs st ln su rr cr td_38 fi_38 (f_X3_at 16 bl v3_38)).bind fun x55 => jn (fun (v2_119 : Int32) (v3_119 : Int32) (fa_119 : Nat → Int32) => (f_X2_backFrom N bl x55.2.1 x55.2.2 v3_119).bind fun x121 => (if 0 ≤ x121.1 then f_X2_find_L38 N c1_38 rc fs st ln su rr cr bc bl n38 v2_119 x121.1 (v4_38 + 1) x121.2.1 x121.2.2 fa_119 else some (v2_119, bc, bl, x121.2.1, x121.2.2, fa_119))) fun k119 => jn (fun (_ : Unit) => (if x55.1 = 0 then k119 v2_38 v3_38 fa_38 else (f_X0_isAnswer N rc fs st ln su x55.2.2).bind fun x94 => (if x94 = 0 then k119 v2_38 v3_38 fa_38 else jn (fun (fa_112 : Nat → Int32) => (if (v2_38 + 1) < c1_38 then k119 (v2_38 + 1) v3_38 fa_112 else some ((v2_38 + 1), bc, bl, x55.2.1, x55.2.2, fa_112))) fun k112 => (if (v2_38 + 1) = 1 then (f_X2_keepFirstAnswer N x55.2.2 fa_38).bind fun x109 => k112 x109 else k112 fa_38)))) fun k81 => (if x55.1 = 0 then k81 () else (if bc ≤ (v3_38 + 1) then k81 () else k119 v2_38 (v3_38 + 1) fa_38)))
def f_X2_find (N : Nat) (size : Int32) (rc : Int32) (g : Nat → Int32) (fs : Nat → Int32) (st : Nat → Int32) (ln : Nat → Int32) (su : Nat → Int32) (rr : Nat → Int32) (cr : Nat → Int32) (bc : Int32) (bl : Nat → Int32) (td : Nat → Int32) (fi : Nat → Int32) (fa : Nat → Int32) (p1 : Int32) : Option (Int32 × Int32 × (Nat → Int32) × (Nat → Int32) × (Nat → Int32) × (Nat → Int32)) :=
  (f_X2_start N size g bc bl td fi).bind fun x1 => (if x1.1 = 0 then (f_X0_isAnswer N rc fs st ln su x1.2.2.2).bind fun x19 => (if x19 = 0 then some (0, x1.1, x1.2.1, x1.2.2.1, x1.2.2.2, fa) else some (1, x1.1, x1.2.1, x1.2.2.1, x1.2.2.2, fa)) else f_X2_find_L38 N p1 rc fs st ln su rr cr x1.1 x1.2.1 N 0 0 0 x1.2.2.1 x1.2.2.2 fa)
def f_X2_fillBy_L4 (bc : Int32) (bl : Nat → Int32) : Nat → Int32 → Int32 → (Nat → Int32) → Option ((Nat → Int32))
  | 0, _, _, _ => none
  | n4 + 1, v2_4, v3_4, fi_4 =>
    (if bc ≤ v3_4 then some fi_4 else f_X2_fillBy_L4 bc bl n4 (v2_4 / 9) (v3_4 + 1) (f_X3_put 16 fi_4 (f_X3_at 16 bl v3_4) ((v2_4 - v2_4 / 9 * 9) + 1)))
def f_X2_fillBy (N : Nat) (bc : Int32) (bl : Nat → Int32) (fi : Nat → Int32) (p1 : Int32) : Option ((Nat → Int32)) :=
  f_X2_fillBy_L4 bc bl N p1 0 fi
def f_X2_countByAll_L31 (N : Nat) (c1_31 : Int32) (rc : Int32) (fs : Nat → Int32) (st : Nat → Int32) (ln : Nat → Int32) (su : Nat → Int32) (bc : Int32) (bl : Nat → Int32) (td : Nat → Int32) : Nat → Int32 → Int32 → (Nat → Int32) → Option (Int32 × Int32 × (Nat → Int32) × (Nat → Int32) × (Nat → Int32))
  | 0, _, _, _ => none
  | n31 + 1, v2_31, v3_31, fi_31 =>
    (if c1_31 ≤ v3_31 then some (v2_31, bc, bl, td, fi_31) else (f_X2_fillBy N bc bl fi_31 v3_31).bind fun x38 => (f_X0_isAnswer N rc fs st ln su x38).bind fun x49 => jn (fun (v2_58 : Int32) => f_X2_countByAll_L31 N c1_31 rc fs st ln su bc bl td n31 v2_58 (v3_31 + 1) x38) fun k58 => (if x49 = 0 then k58 v2_31 else k58 (v2_31 + 1)))
def f_X2_countByAll_L8 (bc : Int32) (k27 : Int32 → Option (Int32 × Int32 × (Nat → Int32) × (Nat → Int32) × (Nat → Int32))) : Nat → Int32 → Int32 → Option (Int32 × Int32 × (Nat → Int32) × (Nat → Int32) × (Nat → Int32))
  | 0, _, _ => none
  | n8 + 1, v1_8, v2_8 =>
    (if bc ≤ v2_8 then k27 v1_8 else f_X2_countByAll_L8 bc k27 n8 (v1_8 * 9) (v2_8 + 1))
def f_X2_countByAll (N : Nat) (size : Int32) (rc : Int32) (g : Nat → Int32) (fs : Nat → Int32) (st : Nat → Int32) (ln : Nat → Int32) (su : Nat → Int32) (bc : Int32) (bl : Nat → Int32) (td : Nat → Int32) (fi : Nat → Int32) : Option (Int32 × Int32 × (Nat → Int32) × (Nat → Int32) × (Nat → Int32)) :=
  (f_X2_start N size g bc bl td fi).bind fun x1 => jn (fun (v1_27 : Int32) => f_X2_countByAll_L31 N v1_27 rc fs st ln su x1.1 x1.2.1 x1.2.2.1 N 0 0 x1.2.2.2) fun k27 => f_X2_countByAll_L8 x1.1 k27 N 1 0
def f_X2_firstUnlike_L2 (fi : Nat → Int32) (fa : Nat → Int32) : Nat → Int32 → Option (Int32)
  | 0, _ => none
  | n2 + 1, v1_2 =>
    (if 16 ≤ v1_2 then some (-1) else (if (f_X3_at 16 fa v1_2) = (f_X3_at 16 fi v1_2) then f_X2_firstUnlike_L2 fi fa n2 (v1_2 + 1) else some v1_2))
def f_X2_firstUnlike (N : Nat) (fi : Nat → Int32) (fa : Nat → Int32) : Option (Int32) :=
  f_X2_firstUnlike_L2 fi fa N 0
def f_X2_firstAnswerAt (fa : Nat → Int32) (p1 : Int32) : (Int32) :=
  (f_X3_at 16 fa p1)
def f_X1_firstSetOf (size : Int32) (g : Nat → Int32) (p1 : Int32) : (Int32) :=
  (if (f_X0_isOpen size g p1) = 0 then 0 else (if (f_X0_isBlank size g p1) = 0 then (1 <<< ((f_X0_givenAt g p1) &&& 31)) else 1022))
def f_X1_start_L7 (size : Int32) (g : Nat → Int32) (gr : Int32) : Nat → Int32 → (Nat → Int32) → Option (Int32 × (Nat → Int32))
  | 0, _, _ => none
  | n7 + 1, v1_7, se_7 =>
    (if 16 ≤ v1_7 then some (gr, se_7) else f_X1_start_L7 size g gr n7 (v1_7 + 1) (f_X3_put 16 se_7 v1_7 (f_X1_firstSetOf size g v1_7)))
def f_X1_start (N : Nat) (size : Int32) (g : Nat → Int32) (gr : Int32) (se : Nat → Int32) : Option (Int32 × (Nat → Int32)) :=
  f_X1_start_L7 size g 0 N 0 se
def f_J6_bitCount_0f7a4 (p0 : Int32) : (Int32) :=
  ((((((((p0 - ((((p0 : Int32).toUInt32 >>> ((1 : Int32).toUInt32 &&& Int32.toUInt32 31)).toInt32) &&& 1431655765)) &&& 858993459) + (((((p0 - ((((p0 : Int32).toUInt32 >>> ((1 : Int32).toUInt32 &&& Int32.toUInt32 31)).toInt32) &&& 1431655765)) : Int32).toUInt32 >>> ((2 : Int32).toUInt32 &&& Int32.toUInt32 31)).toInt32) &&& 858993459)) + ((((((p0 - ((((p0 : Int32).toUInt32 >>> ((1 : Int32).toUInt32 &&& Int32.toUInt32 31)).toInt32) &&& 1431655765)) &&& 858993459) + (((((p0 - ((((p0 : Int32).toUInt32 >>> ((1 : Int32).toUInt32 &&& Int32.toUInt32 31)).toInt32) &&& 1431655765)) : Int32).toUInt32 >>> ((2 : Int32).toUInt32 &&& Int32.toUInt32 31)).toInt32) &&& 858993459)) : Int32).toUInt32 >>> ((4 : Int32).toUInt32 &&& Int32.toUInt32 31)).toInt32)) &&& 252645135) + ((((((((p0 - ((((p0 : Int32).toUInt32 >>> ((1 : Int32).toUInt32 &&& Int32.toUInt32 31)).toInt32) &&& 1431655765)) &&& 858993459) + (((((p0 - ((((p0 : Int32).toUInt32 >>> ((1 : Int32).toUInt32 &&& Int32.toUInt32 31)).toInt32) &&& 1431655765)) : Int32).toUInt32 >>> ((2 : Int32).toUInt32 &&& Int32.toUInt32 31)).toInt32) &&& 858993459)) + ((((((p0 - ((((p0 : Int32).toUInt32 >>> ((1 : Int32).toUInt32 &&& Int32.toUInt32 31)).toInt32) &&& 1431655765)) &&& 858993459) + (((((p0 - ((((p0 : Int32).toUInt32 >>> ((1 : Int32).toUInt32 &&& Int32.toUInt32 31)).toInt32) &&& 1431655765)) : Int32).toUInt32 >>> ((2 : Int32).toUInt32 &&& Int32.toUInt32 31)).toInt32) &&& 858993459)) : Int32).toUInt32 >>> ((4 : Int32).toUInt32 &&& Int32.toUInt32 31)).toInt32)) &&& 252645135) : Int32).toUInt32 >>> ((8 : Int32).toUInt32 &&& Int32.toUInt32 31)).toInt32)) + (((((((((p0 - ((((p0 : Int32).toUInt32 >>> ((1 : Int32).toUInt32 &&& Int32.toUInt32 31)).toInt32) &&& 1431655765)) &&& 858993459) + (((((p0 - ((((p0 : Int32).toUInt32 >>> ((1 : Int32).toUInt32 &&& Int32.toUInt32 31)).toInt32) &&& 1431655765)) : Int32).toUInt32 >>> ((2 : Int32).toUInt32 &&& Int32.toUInt32 31)).toInt32) &&& 858993459)) + ((((((p0 - ((((p0 : Int32).toUInt32 >>> ((1 : Int32).toUInt32 &&& Int32.toUInt32 31)).toInt32) &&& 1431655765)) &&& 858993459) + (((((p0 - ((((p0 : Int32).toUInt32 >>> ((1 : Int32).toUInt32 &&& Int32.toUInt32 31)).toInt32) &&& 1431655765)) : Int32).toUInt32 >>> ((2 : Int32).toUInt32 &&& Int32.toUInt32 31)).toInt32) &&& 858993459)) : Int32).toUInt32 >>> ((4 : Int32).toUInt32 &&& Int32.toUInt32 31)).toInt32)) &&& 252645135) + ((((((((p0 - ((((p0 : Int32).toUInt32 >>> ((1 : Int32).toUInt32 &&& Int32.toUInt32 31)).toInt32) &&& 1431655765)) &&& 858993459) + (((((p0 - ((((p0 : Int32).toUInt32 >>> ((1 : Int32).toUInt32 &&& Int32.toUInt32 31)).toInt32) &&& 1431655765)) : Int32).toUInt32 >>> ((2 : Int32).toUInt32 &&& Int32.toUInt32 31)).toInt32) &&& 858993459)) + ((((((p0 - ((((p0 : Int32).toUInt32 >>> ((1 : Int32).toUInt32 &&& Int32.toUInt32 31)).toInt32) &&& 1431655765)) &&& 858993459) + (((((p0 - ((((p0 : Int32).toUInt32 >>> ((1 : Int32).toUInt32 &&& Int32.toUInt32 31)).toInt32) &&& 1431655765)) : Int32).toUInt32 >>> ((2 : Int32).toUInt32 &&& Int32.toUInt32 31)).toInt32) &&& 858993459)) : Int32).toUInt32 >>> ((4 : Int32).toUInt32 &&& Int32.toUInt32 31)).toInt32)) &&& 252645135) : Int32).toUInt32 >>> ((8 : Int32).toUInt32 &&& Int32.toUInt32 31)).toInt32)) : Int32).toUInt32 >>> ((16 : Int32).toUInt32 &&& Int32.toUInt32 31)).toInt32)) &&& 63)
def f_X1_isSingle (p0 : Int32) : (Int32) :=
  (if (f_J6_bitCount_0f7a4 p0) = 1 then 1 else 0)
def f_X1_take (tk : Int32) (se : Nat → Int32) (p1 : Int32) (p2 : Int32) : (Int32 × (Nat → Int32)) :=
  (if ((f_X3_at 16 se p1) &&& p2) = 0 then (tk, se) else (1, (f_X3_put 16 se p1 ((f_X3_at 16 se p1) &&& (p2 ^^^ (-1))))))
def f_X1_takeSingles_L48 (c1_48 : Int32) (c2_48 : Int32) (c3_48 : Int32) (c4_48 : Int32) (fs : Nat → Int32) (st : Nat → Int32) (k82 : Int32 → (Nat → Int32) → Option (Int32 × (Nat → Int32))) : Nat → Int32 → Int32 → (Nat → Int32) → Option (Int32 × (Nat → Int32))
  | 0, _, _, _ => none
  | n48 + 1, v5_48, tk_48, se_48 =>
    (if c2_48 ≤ v5_48 then k82 tk_48 se_48 else jn (fun (tk_76 : Int32) (se_76 : Nat → Int32) => f_X1_takeSingles_L48 c1_48 c2_48 c3_48 c4_48 fs st k82 n48 (v5_48 + 1) tk_76 se_76) fun k76 => (if v5_48 = c3_48 then k76 tk_48 se_48 else jn (f_X1_take tk_48 se_48 (f_X0_cellAt fs st c1_48 v5_48) c4_48) fun x73 => k76 x73.1 x73.2))
def f_X1_takeSingles_L11 (N : Nat) (c1_11 : Int32) (c2_11 : Int32) (fs : Nat → Int32) (st : Nat → Int32) : Nat → Int32 → Int32 → (Nat → Int32) → Option (Int32 × (Nat → Int32))
  | 0, _, _, _ => none
  | n11 + 1, v3_11, tk_11, se_11 =>
    (if c2_11 ≤ v3_11 then some (tk_11, se_11) else jn (fun (tk_82 : Int32) (se_82 : Nat → Int32) => f_X1_takeSingles_L11 N c1_11 c2_11 fs st n11 (v3_11 + 1) tk_82 se_82) fun k82 => (if (f_X1_isSingle (f_X3_at 16 se_11 (f_X0_cellAt fs st c1_11 v3_11))) = 0 then k82 tk_11 se_11 else f_X1_takeSingles_L48 c1_11 c2_11 v3_11 (f_X3_at 16 se_11 (f_X0_cellAt fs st c1_11 v3_11)) fs st k82 N 0 tk_11 se_11))
def f_X1_takeSingles (N : Nat) (fs : Nat → Int32) (st : Nat → Int32) (ln : Nat → Int32) (tk : Int32) (se : Nat → Int32) (p1 : Int32) : Option (Int32 × (Nat → Int32)) :=
  f_X1_takeSingles_L11 N p1 (f_X0_lengthAt ln p1) fs st N 0 tk se
def f_X1_sumOfSet_L4 (c0_4 : Int32) : Nat → Int32 → Int32 → Option (Int32)
  | 0, _, _ => none
  | n4 + 1, v1_4, v2_4 =>
    (if 9 < v2_4 then some v1_4 else jn (fun (v1_22 : Int32) => f_X1_sumOfSet_L4 c0_4 n4 v1_22 (v2_4 + 1)) fun k22 => (if (c0_4 &&& (1 <<< (v2_4 &&& 31))) = 0 then k22 v1_4 else k22 (v1_4 + v2_4)))
def f_X1_sumOfSet (N : Nat) (p0 : Int32) : Option (Int32) :=
  f_X1_sumOfSet_L4 p0 N 0 1
def f_X1_digitsOfSets_L5 (N : Nat) (c0_5 : Int32) (c1_5 : Int32) (c2_5 : Int32) : Nat → Int32 → Int32 → Option (Int32)
  | 0, _, _ => none
  | n5 + 1, v3_5, v4_5 =>
    (if 1022 < v4_5 then some v3_5 else jn (fun (v3_44 : Int32) => f_X1_digitsOfSets_L5 N c0_5 c1_5 c2_5 n5 v3_44 (v4_5 + 2)) fun k44 => (if (f_J6_bitCount_0f7a4 v4_5) = c0_5 then (if (v4_5 &&& c2_5) = c2_5 then (f_X1_sumOfSet N v4_5).bind fun x32 => (if x32 = c1_5 then k44 (v3_5 ||| v4_5) else k44 v3_5) else k44 v3_5) else k44 v3_5))
def f_X1_digitsOfSets (N : Nat) (p0 : Int32) (p1 : Int32) (p2 : Int32) : Option (Int32) :=
  f_X1_digitsOfSets_L5 N p0 p1 p2 N 0 0
def f_X1_takeOutsideSets_L76 (c1_76 : Int32) (c2_76 : Int32) (c4_76 : Int32) (fs : Nat → Int32) (st : Nat → Int32) : Nat → Int32 → Int32 → (Nat → Int32) → Option (Int32 × (Nat → Int32))
  | 0, _, _, _ => none
  | n76 + 1, v5_76, tk_76, se_76 =>
    (if c2_76 ≤ v5_76 then some (tk_76, se_76) else jn (f_X1_take tk_76 se_76 (f_X0_cellAt fs st c1_76 v5_76) (1022 &&& (c4_76 ^^^ (-1)))) fun x101 => f_X1_takeOutsideSets_L76 c1_76 c2_76 c4_76 fs st n76 (v5_76 + 1) x101.1 x101.2)
def f_X1_takeOutsideSets_L14 (c1_14 : Int32) (c2_14 : Int32) (fs : Nat → Int32) (st : Nat → Int32) (se : Nat → Int32) (k58 : Int32 → Option (Int32 × (Nat → Int32))) : Nat → Int32 → Int32 → Option (Int32 × (Nat → Int32))
  | 0, _, _ => none
  | n14 + 1, v3_14, v4_14 =>
    (if c2_14 ≤ v4_14 then k58 v3_14 else jn (fun (v3_52 : Int32) => f_X1_takeOutsideSets_L14 c1_14 c2_14 fs st se k58 n14 v3_52 (v4_14 + 1)) fun k52 => (if (f_X1_isSingle (f_X3_at 16 se (f_X0_cellAt fs st c1_14 v4_14))) = 0 then k52 v3_14 else k52 (v3_14 ||| (f_X3_at 16 se (f_X0_cellAt fs st c1_14 v4_14)))))
def f_X1_takeOutsideSets (N : Nat) (fs : Nat → Int32) (st : Nat → Int32) (ln : Nat → Int32) (su : Nat → Int32) (tk : Int32) (se : Nat → Int32) (p1 : Int32) : Option (Int32 × (Nat → Int32)) :=
  jn (fun (v3_58 : Int32) => (f_X1_digitsOfSets N (f_X0_lengthAt ln p1) (f_X0_sumAt su p1) v3_58).bind fun x68 => f_X1_takeOutsideSets_L76 p1 (f_X0_lengthAt ln p1) x68 fs st N 0 tk se) fun k58 => f_X1_takeOutsideSets_L14 p1 (f_X0_lengthAt ln p1) fs st se k58 N 0 0
def f_X1_canMake_L37 (c1_37 : Int32) (c2_37 : Int32) (c3_37 : Int32) (c4_37 : Int32) (rec : Int32 → Int32 → Int32 → Option Int32) : Nat → Int32 → Option (Int32)
  | 0, _ => none
  | n37 + 1, v5_37 =>
    (if 9 < v5_37 then some 0 else (if c2_37 < v5_37 then some 0 else jn (fun (_ : Unit) => f_X1_canMake_L37 c1_37 c2_37 c3_37 c4_37 rec n37 (v5_37 + 1)) fun k84 => (if (c4_37 &&& (1 <<< (v5_37 &&& 31))) = 0 then k84 () else (rec (c1_37 - 1) (c2_37 - v5_37) (c3_37 ||| (1 <<< (v5_37 &&& 31)))).bind fun x76 => (if x76 = 0 then k84 () else some 1))))
def f_X1_canMake_1 (N : Nat) (n : Nat) (row : Nat → Int32) (rec : Int32 → Int32 → Int32 → Option Int32) (p1 : Int32) (p2 : Int32) (p3 : Int32) : Option (Int32) :=
  (if 0 < p1 then (if p1 ≤ 4 then f_X1_canMake_L37 p1 p2 p3 ((f_X3_at n row (p1 - 1)) &&& (p3 ^^^ (-1))) rec N 1 else some 0) else (if p2 = 0 then some 1 else some 0))
def f_X1_canMake (N : Nat) : Nat → Nat → (Nat → Int32) → Int32 → Int32 → Int32 → Option (Int32)
  | 0, _, _, _, _, _ => none
  | d + 1, n, row, p1, p2, p3 => f_X1_canMake_1 N n row (f_X1_canMake N d n row) p1 p2 p3
def f_X1_takeUnfit_L67 (N : Nat) (c1_67 : Int32) (c2_67 : Int32) (c3_67 : Int32) (c4_67 : Int32) (su : Nat → Int32) (k139 : Int32 → (Nat → Int32) → (Nat → Int32) → Option (Int32 × (Nat → Int32) × (Nat → Int32))) : Nat → Int32 → Int32 → (Nat → Int32) → (Nat → Int32) → Option (Int32 × (Nat → Int32) × (Nat → Int32))
  | 0, _, _, _, _ => none
  | n67 + 1, v5_67, tk_67, se_67, sr_67 =>
    (if 9 < v5_67 then k139 tk_67 se_67 sr_67 else jn (fun (tk_133 : Int32) (se_133 : Nat → Int32) => f_X1_takeUnfit_L67 N c1_67 c2_67 c3_67 c4_67 su k139 n67 (v5_67 + 1) tk_133 se_133 (f_X3_put 4 sr_67 c3_67 ((f_X3_at 16 se_67 c4_67) &&& (1 <<< (v5_67 &&& 31))))) fun k133 => (if ((f_X3_at 16 se_67 c4_67) &&& (1 <<< (v5_67 &&& 31))) = 0 then k133 tk_67 se_67 else (f_X1_canMake N 6 4 (f_X3_put 4 sr_67 c3_67 ((f_X3_at 16 se_67 c4_67) &&& (1 <<< (v5_67 &&& 31)))) c2_67 (f_X0_sumAt su c1_67) 0).bind fun x119 => (if x119 = 0 then jn (f_X1_take tk_67 se_67 c4_67 ((f_X3_at 16 se_67 c4_67) &&& (1 <<< (v5_67 &&& 31)))) fun x130 => k133 x130.1 x130.2 else k133 tk_67 se_67)))
def f_X1_takeUnfit_L48 (N : Nat) (c1_48 : Int32) (c2_48 : Int32) (fs : Nat → Int32) (st : Nat → Int32) (su : Nat → Int32) : Nat → Int32 → Int32 → (Nat → Int32) → (Nat → Int32) → Option (Int32 × (Nat → Int32) × (Nat → Int32))
  | 0, _, _, _, _ => none
  | n48 + 1, v3_48, tk_48, se_48, sr_48 =>
    (if c2_48 ≤ v3_48 then some (tk_48, se_48, sr_48) else jn (fun (tk_139 : Int32) (se_139 : Nat → Int32) (sr_139 : Nat → Int32) => f_X1_takeUnfit_L48 N c1_48 c2_48 fs st su n48 (v3_48 + 1) tk_139 se_139 (f_X3_put 4 sr_139 v3_48 (f_X3_at 16 se_139 (f_X0_cellAt fs st c1_48 v3_48)))) fun k139 => f_X1_takeUnfit_L67 N c1_48 c2_48 v3_48 (f_X0_cellAt fs st c1_48 v3_48) su k139 N 1 tk_48 se_48 sr_48)
def f_X1_takeUnfit_L11 (c1_11 : Int32) (c2_11 : Int32) (fs : Nat → Int32) (st : Nat → Int32) (se : Nat → Int32) (k46 : (Nat → Int32) → Option (Int32 × (Nat → Int32) × (Nat → Int32))) : Nat → Int32 → (Nat → Int32) → Option (Int32 × (Nat → Int32) × (Nat → Int32))
  | 0, _, _ => none
  | n11 + 1, v3_11, sr_11 =>
    (if c2_11 ≤ v3_11 then k46 sr_11 else f_X1_takeUnfit_L11 c1_11 c2_11 fs st se k46 n11 (v3_11 + 1) (f_X3_put 4 sr_11 v3_11 (f_X3_at 16 se (f_X0_cellAt fs st c1_11 v3_11))))
def f_X1_takeUnfit (N : Nat) (fs : Nat → Int32) (st : Nat → Int32) (ln : Nat → Int32) (su : Nat → Int32) (tk : Int32) (se : Nat → Int32) (sr : Nat → Int32) (p1 : Int32) : Option (Int32 × (Nat → Int32) × (Nat → Int32)) :=
  jn (fun (sr_46 : Nat → Int32) => f_X1_takeUnfit_L48 N p1 (f_X0_lengthAt ln p1) fs st su N 0 tk se sr_46) fun k46 => f_X1_takeUnfit_L11 p1 (f_X0_lengthAt ln p1) fs st se k46 N 0 sr
def f_X1_goThrough_L15 (N : Nat) (c1_15 : Int32) (c2_15 : Int32) (fs : Nat → Int32) (st : Nat → Int32) (ln : Nat → Int32) (su : Nat → Int32) : Nat → Int32 → Int32 → (Nat → Int32) → (Nat → Int32) → Option (Int32 × (Nat → Int32) × (Nat → Int32))
  | 0, _, _, _, _ => none
  | n15 + 1, v3_15, tk_15, se_15, sr_15 =>
    (if c2_15 ≤ v3_15 then some (tk_15, se_15, sr_15) else jn (fun (tk_62 : Int32) (se_62 : Nat → Int32) (sr_62 : Nat → Int32) => f_X1_goThrough_L15 N c1_15 c2_15 fs st ln su n15 (v3_15 + 1) tk_62 se_62 sr_62) fun k62 => (if c1_15 = 1 then (f_X1_takeSingles N fs st ln tk_15 se_15 v3_15).bind fun x27 => k62 x27.1 x27.2 sr_15 else (if (f_X0_sumAt su v3_15) = 0 then k62 tk_15 se_15 sr_15 else (if c1_15 = 2 then (f_X1_takeOutsideSets N fs st ln su tk_15 se_15 v3_15).bind fun x51 => k62 x51.1 x51.2 sr_15 else (f_X1_takeUnfit N fs st ln su tk_15 se_15 sr_15 v3_15).bind fun x59 => k62 x59.1 x59.2.1 x59.2.2))))
def f_X1_goThrough (N : Nat) (rc : Int32) (fs : Nat → Int32) (st : Nat → Int32) (ln : Nat → Int32) (su : Nat → Int32) (tk : Int32) (se : Nat → Int32) (sr : Nat → Int32) (p1 : Int32) : Option (Int32 × (Nat → Int32) × (Nat → Int32)) :=
  f_X1_goThrough_L15 N p1 (f_X0_countRuns rc) fs st ln su N 0 0 se sr
def f_X1_hasEmptyCell_L2 (size : Int32) (g : Nat → Int32) (se : Nat → Int32) : Nat → Int32 → Option (Int32)
  | 0, _ => none
  | n2 + 1, v1_2 =>
    (if 16 ≤ v1_2 then some 0 else jn (fun (_ : Unit) => f_X1_hasEmptyCell_L2 size g se n2 (v1_2 + 1)) fun k32 => (if (f_X0_isOpen size g v1_2) = 0 then k32 () else (if (f_X3_at 16 se v1_2) = 0 then some 1 else k32 ())))
def f_X1_hasEmptyCell (N : Nat) (size : Int32) (g : Nat → Int32) (se : Nat → Int32) : Option (Int32) :=
  f_X1_hasEmptyCell_L2 size g se N 0
def f_X1_solve_L8 (N : Nat) (c1_8 : Int32) (size : Int32) (rc : Int32) (g : Nat → Int32) (fs : Nat → Int32) (st : Nat → Int32) (ln : Nat → Int32) (su : Nat → Int32) : Nat → Int32 → Int32 → Int32 → Int32 → (Nat → Int32) → (Nat → Int32) → Option (Int32 × Int32 × (Nat → Int32) × (Nat → Int32))
  | 0, _, _, _, _, _, _ => none
  | n8 + 1, v2_8, v3_8, tk_8, gr_8, se_8, sr_8 =>
    (if 1000 ≤ v3_8 then some (tk_8, gr_8, se_8, sr_8) else (if c1_8 < v2_8 then some (tk_8, gr_8, se_8, sr_8) else (f_X1_goThrough N rc fs st ln su tk_8 se_8 sr_8 v2_8).bind fun x22 => jn (fun (gr_44 : Int32) => (f_X1_hasEmptyCell N size g x22.2.1).bind fun x45 => (if x45 = 0 then jn (fun (t0_66 : Int32) => f_X1_solve_L8 N c1_8 size rc g fs st ln su n8 t0_66 (v3_8 + 1) x22.1 gr_44 x22.2.1 x22.2.2) fun k66 => (if x22.1 = 0 then k66 (v2_8 + 1) else k66 1) else some (x22.1, gr_44, x22.2.1, x22.2.2))) fun k44 => (if x22.1 = 0 then k44 gr_8 else k44 (if gr_8 < v2_8 then v2_8 else gr_8))))
def f_X1_solve (N : Nat) (size : Int32) (rc : Int32) (g : Nat → Int32) (fs : Nat → Int32) (st : Nat → Int32) (ln : Nat → Int32) (su : Nat → Int32) (tk : Int32) (gr : Int32) (se : Nat → Int32) (sr : Nat → Int32) (p1 : Int32) : Option (Int32 × Int32 × (Nat → Int32) × (Nat → Int32)) :=
  (f_X1_start N size g gr se).bind fun x1 => f_X1_solve_L8 N p1 size rc g fs st ln su N 1 0 tk x1.1 x1.2 sr
def f_X1_isSolved_L2 (size : Int32) (g : Nat → Int32) (se : Nat → Int32) : Nat → Int32 → Option (Int32)
  | 0, _ => none
  | n2 + 1, v1_2 =>
    (if 16 ≤ v1_2 then some 1 else jn (fun (_ : Unit) => f_X1_isSolved_L2 size g se n2 (v1_2 + 1)) fun k35 => (if (f_X0_isOpen size g v1_2) = 0 then k35 () else (if (f_X1_isSingle (f_X3_at 16 se v1_2)) = 0 then some 0 else k35 ())))
def f_X1_isSolved (N : Nat) (size : Int32) (g : Nat → Int32) (se : Nat → Int32) : Option (Int32) :=
  f_X1_isSolved_L2 size g se N 0
def f_X1_greatestRule (gr : Int32) : (Int32) :=
  gr
def f_X1_setAt (se : Nat → Int32) (p1 : Int32) : (Int32) :=
  (f_X3_at 16 se p1)
def f_X1_firstFound_L2 (size : Int32) (g : Nat → Int32) (se : Nat → Int32) : Nat → Int32 → Option (Int32)
  | 0, _ => none
  | n2 + 1, v1_2 =>
    (if 16 ≤ v1_2 then some (-1) else jn (fun (_ : Unit) => f_X1_firstFound_L2 size g se n2 (v1_2 + 1)) fun k35 => (if (f_X0_isBlank size g v1_2) = 0 then k35 () else (if (f_X1_isSingle (f_X3_at 16 se v1_2)) = 0 then k35 () else some v1_2)))
def f_X1_firstFound (N : Nat) (size : Int32) (g : Nat → Int32) (se : Nat → Int32) : Option (Int32) :=
  f_X1_firstFound_L2 size g se N 0
def f_X1_solveToHint_L2 (N : Nat) (size : Int32) (rc : Int32) (g : Nat → Int32) (fs : Nat → Int32) (st : Nat → Int32) (ln : Nat → Int32) (su : Nat → Int32) : Nat → Int32 → Int32 → Int32 → (Nat → Int32) → (Nat → Int32) → Option (Int32 × Int32 × Int32 × (Nat → Int32) × (Nat → Int32))
  | 0, _, _, _, _, _ => none
  | n2 + 1, v1_2, tk_2, gr_2, se_2, sr_2 =>
    (if 3 < v1_2 then some ((-1), tk_2, gr_2, se_2, sr_2) else (f_X1_solve N size rc g fs st ln su tk_2 gr_2 se_2 sr_2 v1_2).bind fun x9 => (f_X1_firstFound N size g x9.2.2.1).bind fun x13 => (if x13 = (-1) then f_X1_solveToHint_L2 N size rc g fs st ln su n2 (v1_2 + 1) x9.1 x9.2.1 x9.2.2.1 x9.2.2.2 else some (v1_2, x9.1, x9.2.1, x9.2.2.1, x9.2.2.2)))
def f_X1_solveToHint (N : Nat) (size : Int32) (rc : Int32) (g : Nat → Int32) (fs : Nat → Int32) (st : Nat → Int32) (ln : Nat → Int32) (su : Nat → Int32) (tk : Int32) (gr : Int32) (se : Nat → Int32) (sr : Nat → Int32) : Option (Int32 × Int32 × Int32 × (Nat → Int32) × (Nat → Int32)) :=
  f_X1_solveToHint_L2 N size rc g fs st ln su N 1 tk gr se sr
