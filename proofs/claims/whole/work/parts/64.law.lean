def f_L_law_L23 (N : Nat) (L : Nat) (xs : Nat → Int32) : Nat → Int32 → Int32 → Int32 → (Nat → Int32) → (Nat → Int32) → (Nat → Int32) → (Nat → Int32) → (Nat → Int32) → (Nat → Int32) → (Nat → Int32) → Int32 → (Nat → Int32) → (Nat → Int32) → (Nat → Int32) → (Nat → Int32) → Int32 → Int32 → (Nat → Int32) → (Nat → Int32) → Int32 → Int32 → Int32 → Int32 → Int32 → Int32 → Int32 → Int32 → (Nat → Int32) → (Nat → Int32) → (Nat → Int32) → (Nat → Int32) → (Nat → Int32) → (Nat → Int32) → (Nat → Int32) → (Nat → Int32) → (Nat → Int32) → (Nat → Int32) → (Nat → Int64) → Option (Int32)
  | 0, _, _, _, _, _, _, _, _, _, _, _, _, _, _, _, _, _, _, _, _, _, _, _, _, _, _, _, _, _, _, _, _, _, _, _, _, _, _ => none
  | n23 + 1, v4_23, size_23, rc_23, g_23, fs_23, st_23, ln_23, su_23, rr_23, cr_23, bc_23, bl_23, td_23, fi_23, fa_23, tk_23, gr_23, se_23, sr_23, mth_23, msz_23, mrn_23, mmy_23, mdf_23, mgu_23, mhs_23, mlv_23, mba_23, mgi_23, mfi_23, mle_23, mst_23, msu_23, mtr_23, mdi_23, mfa_23, mca_23, ou_23 =>
    (if ((nI L) - 3) < v4_23 then some 1 else gd (inR v4_23 L) <| (if ((xs ((v4_23 : Int32)).toNatClampNeg) &&& 31) = 0 then gd (inR (v4_23 + 1) L) <| (f_L_begin N size_23 rc_23 g_23 fs_23 st_23 ln_23 su_23 rr_23 cr_23 (xs (((v4_23 + 1) : Int32)).toNatClampNeg)).bind fun x135 => gd (inR (v4_23 + 1) L) <| (f_X4_begin N mth_23 msz_23 mrn_23 mba_23 mgi_23 mfi_23 mle_23 mst_23 msu_23 (xs (((v4_23 + 1) : Int32)).toNatClampNeg)).bind fun x147 => (if (f_X4_thrown x147.1) = x135.1 then f_L_law_L23 N L xs n23 (v4_23 + 3) x135.2.1 x135.2.2.1 x135.2.2.2.1 x135.2.2.2.2.1 x135.2.2.2.2.2.1 x135.2.2.2.2.2.2.1 x135.2.2.2.2.2.2.2.1 x135.2.2.2.2.2.2.2.2.1 x135.2.2.2.2.2.2.2.2.2 bc_23 bl_23 td_23 fi_23 fa_23 tk_23 gr_23 se_23 sr_23 x147.1 x147.2.1 x147.2.2.1 mmy_23 mdf_23 mgu_23 mhs_23 mlv_23 x147.2.2.2.1 x147.2.2.2.2.1 x147.2.2.2.2.2.1 x147.2.2.2.2.2.2.1 x147.2.2.2.2.2.2.2.1 x147.2.2.2.2.2.2.2.2 mtr_23 mdi_23 mfa_23 mca_23 ou_23 else some 0) else if ((xs ((v4_23 : Int32)).toNatClampNeg) &&& 31) = 1 then gd (inR (v4_23 + 1) L) <| (f_L_bar N size_23 rc_23 g_23 fs_23 st_23 ln_23 su_23 rr_23 cr_23 ou_23 (xs (((v4_23 + 1) : Int32)).toNatClampNeg)).bind fun x172 => gd (inR (v4_23 + 1) L) <| (f_X4_bar N mth_23 msz_23 mrn_23 mba_23 mgi_23 mfi_23 mle_23 mst_23 msu_23 (xs (((v4_23 + 1) : Int32)).toNatClampNeg)).bind fun x184 => (if (f_X4_thrown x184.2.1) = x172.1 then (if x172.1 = 0 then (if x184.1 = 0 then (if (lg_cmp (x172.2.2.2.2.2.2.2.2.2 ((0 : Int32)).toNatClampNeg) 0) = 0 then f_L_law_L23 N L xs n23 (v4_23 + 3) size_23 x172.2.1 x172.2.2.1 x172.2.2.2.1 x172.2.2.2.2.1 x172.2.2.2.2.2.1 x172.2.2.2.2.2.2.1 x172.2.2.2.2.2.2.2.1 x172.2.2.2.2.2.2.2.2.1 bc_23 bl_23 td_23 fi_23 fa_23 tk_23 gr_23 se_23 sr_23 x184.2.1 msz_23 x184.2.2.1 mmy_23 mdf_23 mgu_23 mhs_23 mlv_23 x184.2.2.2.1 x184.2.2.2.2.1 x184.2.2.2.2.2.1 x184.2.2.2.2.2.2.1 x184.2.2.2.2.2.2.2.1 x184.2.2.2.2.2.2.2.2 mtr_23 mdi_23 mfa_23 mca_23 x172.2.2.2.2.2.2.2.2.2 else some 0) else (if (lg_cmp (x172.2.2.2.2.2.2.2.2.2 ((0 : Int32)).toNatClampNeg) 1) = 0 then f_L_law_L23 N L xs n23 (v4_23 + 3) size_23 x172.2.1 x172.2.2.1 x172.2.2.2.1 x172.2.2.2.2.1 x172.2.2.2.2.2.1 x172.2.2.2.2.2.2.1 x172.2.2.2.2.2.2.2.1 x172.2.2.2.2.2.2.2.2.1 bc_23 bl_23 td_23 fi_23 fa_23 tk_23 gr_23 se_23 sr_23 x184.2.1 msz_23 x184.2.2.1 mmy_23 mdf_23 mgu_23 mhs_23 mlv_23 x184.2.2.2.1 x184.2.2.2.2.1 x184.2.2.2.2.2.1 x184.2.2.2.2.2.2.1 x184.2.2.2.2.2.2.2.1 x184.2.2.2.2.2.2.2.2 mtr_23 mdi_23 mfa_23 mca_23 x172.2.2.2.2.2.2.2.2.2 else some 0)) else f_L_law_L23 N L xs n23 (v4_23 + 3) size_23 x172.2.1 x172.2.2.1 x172.2.2.2.1 x172.2.2.2.2.1 x172.2.2.2.2.2.1 x172.2.2.2.2.2.2.1 x172.2.2.2.2.2.2.2.1 x172.2.2.2.2.2.2.2.2.1 bc_23 bl_23 td_23 fi_23 fa_23 tk_23 gr_23 se_23 sr_23 x184.2.1 msz_23 x184.2.2.1 mmy_23 mdf_23 mgu_23 mhs_23 mlv_23 x184.2.2.2.1 x184.2.2.2.2.1 x184.2.2.2.2.2.1 x184.2.2.2.2.2.2.1 x184.2.2.2.2.2.2.2.1 x184.2.2.2.2.2.2.2.2 mtr_23 mdi_23 mfa_23 mca_23 x172.2.2.2.2.2.2.2.2.2) else some 0) else if ((xs ((v4_23 : Int32)).toNatClampNeg) &&& 31) = 2 then gd (inR (v4_23 + 1) L) <| (f_L_barBoth N size_23 rc_23 g_23 fs_23 st_23 ln_23 su_23 rr_23 cr_23 ou_23 (xs (((v4_23 + 1) : Int32)).toNatClampNeg)).bind fun x235 => gd (inR (v4_23 + 1) L) <| (f_X4_barBoth N mth_23 msz_23 mrn_23 mba_23 mgi_23 mfi_23 mle_23 mst_23 msu_23 (xs (((v4_23 + 1) : Int32)).toNatClampNeg)).bind fun x247 => (if (f_X4_thrown x247.2.1) = x235.1 then (if x235.1 = 0 then (if (lg_cmp (x235.2.2.2.2.2.2.2.2.2 ((0 : Int32)).toNatClampNeg) ((x247.1 : Int32).toInt64)) = 0 then f_L_law_L23 N L xs n23 (v4_23 + 3) size_23 x235.2.1 x235.2.2.1 x235.2.2.2.1 x235.2.2.2.2.1 x235.2.2.2.2.2.1 x235.2.2.2.2.2.2.1 x235.2.2.2.2.2.2.2.1 x235.2.2.2.2.2.2.2.2.1 bc_23 bl_23 td_23 fi_23 fa_23 tk_23 gr_23 se_23 sr_23 x247.2.1 msz_23 x247.2.2.1 mmy_23 mdf_23 mgu_23 mhs_23 mlv_23 x247.2.2.2.1 x247.2.2.2.2.1 x247.2.2.2.2.2.1 x247.2.2.2.2.2.2.1 x247.2.2.2.2.2.2.2.1 x247.2.2.2.2.2.2.2.2 mtr_23 mdi_23 mfa_23 mca_23 x235.2.2.2.2.2.2.2.2.2 else some 0) else f_L_law_L23 N L xs n23 (v4_23 + 3) size_23 x235.2.1 x235.2.2.1 x235.2.2.2.1 x235.2.2.2.2.1 x235.2.2.2.2.2.1 x235.2.2.2.2.2.2.1 x235.2.2.2.2.2.2.2.1 x235.2.2.2.2.2.2.2.2.1 bc_23 bl_23 td_23 fi_23 fa_23 tk_23 gr_23 se_23 sr_23 x247.2.1 msz_23 x247.2.2.1 mmy_23 mdf_23 mgu_23 mhs_23 mlv_23 x247.2.2.2.1 x247.2.2.2.2.1 x247.2.2.2.2.2.1 x247.2.2.2.2.2.2.1 x247.2.2.2.2.2.2.2.1 x247.2.2.2.2.2.2.2.2 mtr_23 mdi_23 mfa_23 mca_23 x235.2.2.2.2.2.2.2.2.2) else some 0) else if ((xs ((v4_23 : Int32)).toNatClampNeg) &&& 31) = 3 then gd (inR (v4_23 + 1) L) <| gd (inR (v4_23 + 2) L) <| (f_L_give size_23 g_23 ou_23 (xs (((v4_23 + 1) : Int32)).toNatClampNeg) (xs (((v4_23 + 2) : Int32)).toNatClampNeg)).bind fun x297 => gd (inR (v4_23 + 1) L) <| gd (inR (v4_23 + 2) L) <| (f_X4_give mth_23 msz_23 mba_23 mgi_23 (xs (((v4_23 + 1) : Int32)).toNatClampNeg) (xs (((v4_23 + 2) : Int32)).toNatClampNeg)).bind fun x315 => (if (f_X4_thrown x315.2.1) = x297.1 then (if x297.1 = 0 then (if (lg_cmp (x297.2.2 ((0 : Int32)).toNatClampNeg) ((x315.1 : Int32).toInt64)) = 0 then f_L_law_L23 N L xs n23 (v4_23 + 3) size_23 rc_23 x297.2.1 fs_23 st_23 ln_23 su_23 rr_23 cr_23 bc_23 bl_23 td_23 fi_23 fa_23 tk_23 gr_23 se_23 sr_23 x315.2.1 msz_23 mrn_23 mmy_23 mdf_23 mgu_23 mhs_23 mlv_23 mba_23 x315.2.2 mfi_23 mle_23 mst_23 msu_23 mtr_23 mdi_23 mfa_23 mca_23 x297.2.2 else some 0) else f_L_law_L23 N L xs n23 (v4_23 + 3) size_23 rc_23 x297.2.1 fs_23 st_23 ln_23 su_23 rr_23 cr_23 bc_23 bl_23 td_23 fi_23 fa_23 tk_23 gr_23 se_23 sr_23 x315.2.1 msz_23 mrn_23 mmy_23 mdf_23 mgu_23 mhs_23 mlv_23 mba_23 x315.2.2 mfi_23 mle_23 mst_23 msu_23 mtr_23 mdi_23 mfa_23 mca_23 x297.2.2) else some 0) else if ((xs ((v4_23 : Int32)).toNatClampNeg) &&& 31) = 4 then gd (inR (v4_23 + 1) L) <| gd (inR (v4_23 + 2) L) <| (f_L_setSum rc_23 su_23 ou_23 (xs (((v4_23 + 1) : Int32)).toNatClampNeg) (xs (((v4_23 + 2) : Int32)).toNatClampNeg)).bind fun x365 => gd (inR (v4_23 + 1) L) <| gd (inR (v4_23 + 2) L) <| (f_X4_setSum mth_23 mrn_23 msu_23 (xs (((v4_23 + 1) : Int32)).toNatClampNeg) (xs (((v4_23 + 2) : Int32)).toNatClampNeg)).bind fun x383 => (if (f_X4_thrown x383.2.1) = x365.1 then (if x365.1 = 0 then (if (lg_cmp (x365.2.2 ((0 : Int32)).toNatClampNeg) ((x383.1 : Int32).toInt64)) = 0 then f_L_law_L23 N L xs n23 (v4_23 + 3) size_23 rc_23 g_23 fs_23 st_23 ln_23 x365.2.1 rr_23 cr_23 bc_23 bl_23 td_23 fi_23 fa_23 tk_23 gr_23 se_23 sr_23 x383.2.1 msz_23 mrn_23 mmy_23 mdf_23 mgu_23 mhs_23 mlv_23 mba_23 mgi_23 mfi_23 mle_23 mst_23 x383.2.2 mtr_23 mdi_23 mfa_23 mca_23 x365.2.2 else some 0) else f_L_law_L23 N L xs n23 (v4_23 + 3) size_23 rc_23 g_23 fs_23 st_23 ln_23 x365.2.1 rr_23 cr_23 bc_23 bl_23 td_23 fi_23 fa_23 tk_23 gr_23 se_23 sr_23 x383.2.1 msz_23 mrn_23 mmy_23 mdf_23 mgu_23 mhs_23 mlv_23 mba_23 mgi_23 mfi_23 mle_23 mst_23 x383.2.2 mtr_23 mdi_23 mfa_23 mca_23 x365.2.2) else some 0) else if ((xs ((v4_23 : Int32)).toNatClampNeg) &&& 31) = 5 then (f_L_press N size_23 rc_23 g_23 fs_23 st_23 ln_23 su_23 ou_23).bind fun x421 => (f_X4_press N mth_23 msz_23 mrn_23 mba_23 mgi_23 mfi_23 mle_23 mst_23 msu_23 mdi_23).bind fun x427 => (if (f_X4_thrown x427.2.1) = x421.1 then (if x421.1 = 0 then (if (lg_cmp (x421.2.2.2 ((0 : Int32)).toNatClampNeg) ((x427.1 : Int32).toInt64)) = 0 then f_L_law_L23 N L xs n23 (v4_23 + 3) size_23 rc_23 x421.2.1 fs_23 st_23 ln_23 x421.2.2.1 rr_23 cr_23 bc_23 bl_23 td_23 fi_23 fa_23 tk_23 gr_23 se_23 sr_23 x427.2.1 msz_23 mrn_23 mmy_23 mdf_23 mgu_23 mhs_23 mlv_23 mba_23 x427.2.2.1 mfi_23 mle_23 mst_23 x427.2.2.2.1 mtr_23 x427.2.2.2.2 mfa_23 mca_23 x421.2.2.2 else some 0) else f_L_law_L23 N L xs n23 (v4_23 + 3) size_23 rc_23 x421.2.1 fs_23 st_23 ln_23 x421.2.2.1 rr_23 cr_23 bc_23 bl_23 td_23 fi_23 fa_23 tk_23 gr_23 se_23 sr_23 x427.2.1 msz_23 mrn_23 mmy_23 mdf_23 mgu_23 mhs_23 mlv_23 mba_23 x427.2.2.1 mfi_23 mle_23 mst_23 x427.2.2.2.1 mtr_23 x427.2.2.2.2 mfa_23 mca_23 x421.2.2.2) else some 0) else if ((xs ((v4_23 : Int32)).toNatClampNeg) &&& 31) = 6 then (f_X3_open N size_23 g_23).bind fun x464 => (f_X4_open N mth_23 msz_23 mba_23).bind fun x468 => (if x464 = x468.1 then f_L_law_L23 N L xs n23 (v4_23 + 3) size_23 rc_23 g_23 fs_23 st_23 ln_23 su_23 rr_23 cr_23 bc_23 bl_23 td_23 fi_23 fa_23 tk_23 gr_23 se_23 sr_23 x468.2 msz_23 mrn_23 mmy_23 mdf_23 mgu_23 mhs_23 mlv_23 mba_23 mgi_23 mfi_23 mle_23 mst_23 msu_23 mtr_23 mdi_23 mfa_23 mca_23 ou_23 else some 0) else if ((xs ((v4_23 : Int32)).toNatClampNeg) &&& 31) = 7 then jn (f_X4_runs mth_23 mrn_23) fun x481 => (if (f_X3_runs rc_23) = x481.1 then f_L_law_L23 N L xs n23 (v4_23 + 3) size_23 rc_23 g_23 fs_23 st_23 ln_23 su_23 rr_23 cr_23 bc_23 bl_23 td_23 fi_23 fa_23 tk_23 gr_23 se_23 sr_23 x481.2 msz_23 mrn_23 mmy_23 mdf_23 mgu_23 mhs_23 mlv_23 mba_23 mgi_23 mfi_23 mle_23 mst_23 msu_23 mtr_23 mdi_23 mfa_23 mca_23 ou_23 else some 0) else if ((xs ((v4_23 : Int32)).toNatClampNeg) &&& 31) = 8 then gd (inR (v4_23 + 1) L) <| (f_L_firstOf rc_23 fs_23 ou_23 (xs (((v4_23 + 1) : Int32)).toNatClampNeg)).bind fun x497 => gd (inR (v4_23 + 1) L) <| (f_X4_firstOf mth_23 mrn_23 mfi_23 (xs (((v4_23 + 1) : Int32)).toNatClampNeg)).bind fun x509 => (if (f_X4_thrown x509.2) = x497.1 then (if x497.1 = 0 then (if (lg_cmp (x497.2 ((0 : Int32)).toNatClampNeg) ((x509.1 : Int32).toInt64)) = 0 then f_L_law_L23 N L xs n23 (v4_23 + 3) size_23 rc_23 g_23 fs_23 st_23 ln_23 su_23 rr_23 cr_23 bc_23 bl_23 td_23 fi_23 fa_23 tk_23 gr_23 se_23 sr_23 x509.2 msz_23 mrn_23 mmy_23 mdf_23 mgu_23 mhs_23 mlv_23 mba_23 mgi_23 mfi_23 mle_23 mst_23 msu_23 mtr_23 mdi_23 mfa_23 mca_23 x497.2 else some 0) else f_L_law_L23 N L xs n23 (v4_23 + 3) size_23 rc_23 g_23 fs_23 st_23 ln_23 su_23 rr_23 cr_23 bc_23 bl_23 td_23 fi_23 fa_23 tk_23 gr_23 se_23 sr_23 x509.2 msz_23 mrn_23 mmy_23 mdf_23 mgu_23 mhs_23 mlv_23 mba_23 mgi_23 mfi_23 mle_23 mst_23 msu_23 mtr_23 mdi_23 mfa_23 mca_23 x497.2) else some 0) else if ((xs ((v4_23 : Int32)).toNatClampNeg) &&& 31) = 9 then gd (inR (v4_23 + 1) L) <| (f_L_lengthOf rc_23 ln_23 ou_23 (xs (((v4_23 + 1) : Int32)).toNatClampNeg)).bind fun x553 => gd (inR (v4_23 + 1) L) <| (f_X4_lengthOf mth_23 mrn_23 mle_23 (xs (((v4_23 + 1) : Int32)).toNatClampNeg)).bind fun x565 => (if (f_X4_thrown x565.2) = x553.1 then (if x553.1 = 0 then (if (lg_cmp (x553.2 ((0 : Int32)).toNatClampNeg) ((x565.1 : Int32).toInt64)) = 0 then f_L_law_L23 N L xs n23 (v4_23 + 3) size_23 rc_23 g_23 fs_23 st_23 ln_23 su_23 rr_23 cr_23 bc_23 bl_23 td_23 fi_23 fa_23 tk_23 gr_23 se_23 sr_23 x565.2 msz_23 mrn_23 mmy_23 mdf_23 mgu_23 mhs_23 mlv_23 mba_23 mgi_23 mfi_23 mle_23 mst_23 msu_23 mtr_23 mdi_23 mfa_23 mca_23 x553.2 else some 0) else f_L_law_L23 N L xs n23 (v4_23 + 3) size_23 rc_23 g_23 fs_23 st_23 ln_23 su_23 rr_23 cr_23 bc_23 bl_23 td_23 fi_23 fa_23 tk_23 gr_23 se_23 sr_23 x565.2 msz_23 mrn_23 mmy_23 mdf_23 mgu_23 mhs_23 mlv_23 mba_23 mgi_23 mfi_23 mle_23 mst_23 msu_23 mtr_23 mdi_23 mfa_23 mca_23 x553.2) else some 0) else if ((xs ((v4_23 : Int32)).toNatClampNeg) &&& 31) = 10 then gd (inR (v4_23 + 1) L) <| (f_L_sumOf rc_23 su_23 ou_23 (xs (((v4_23 + 1) : Int32)).toNatClampNeg)).bind fun x609 => gd (inR (v4_23 + 1) L) <| (f_X4_sumOf mth_23 mrn_23 msu_23 (xs (((v4_23 + 1) : Int32)).toNatClampNeg)).bind fun x621 => (if (f_X4_thrown x621.2) = x609.1 then (if x609.1 = 0 then (if (lg_cmp (x609.2 ((0 : Int32)).toNatClampNeg) ((x621.1 : Int32).toInt64)) = 0 then f_L_law_L23 N L xs n23 (v4_23 + 3) size_23 rc_23 g_23 fs_23 st_23 ln_23 su_23 rr_23 cr_23 bc_23 bl_23 td_23 fi_23 fa_23 tk_23 gr_23 se_23 sr_23 x621.2 msz_23 mrn_23 mmy_23 mdf_23 mgu_23 mhs_23 mlv_23 mba_23 mgi_23 mfi_23 mle_23 mst_23 msu_23 mtr_23 mdi_23 mfa_23 mca_23 x609.2 else some 0) else f_L_law_L23 N L xs n23 (v4_23 + 3) size_23 rc_23 g_23 fs_23 st_23 ln_23 su_23 rr_23 cr_23 bc_23 bl_23 td_23 fi_23 fa_23 tk_23 gr_23 se_23 sr_23 x621.2 msz_23 mrn_23 mmy_23 mdf_23 mgu_23 mhs_23 mlv_23 mba_23 mgi_23 mfi_23 mle_23 mst_23 msu_23 mtr_23 mdi_23 mfa_23 mca_23 x609.2) else some 0) else if ((xs ((v4_23 : Int32)).toNatClampNeg) &&& 31) = 11 then gd (inR (v4_23 + 1) L) <| (f_L_digit size_23 g_23 ou_23 (xs (((v4_23 + 1) : Int32)).toNatClampNeg)).bind fun x665 => gd (inR (v4_23 + 1) L) <| (f_X4_digit mth_23 msz_23 mba_23 mgi_23 (xs (((v4_23 + 1) : Int32)).toNatClampNeg)).bind fun x677 => (if (f_X4_thrown x677.2) = x665.1 then (if x665.1 = 0 then (if (lg_cmp (x665.2 ((0 : Int32)).toNatClampNeg) ((x677.1 : Int32).toInt64)) = 0 then f_L_law_L23 N L xs n23 (v4_23 + 3) size_23 rc_23 g_23 fs_23 st_23 ln_23 su_23 rr_23 cr_23 bc_23 bl_23 td_23 fi_23 fa_23 tk_23 gr_23 se_23 sr_23 x677.2 msz_23 mrn_23 mmy_23 mdf_23 mgu_23 mhs_23 mlv_23 mba_23 mgi_23 mfi_23 mle_23 mst_23 msu_23 mtr_23 mdi_23 mfa_23 mca_23 x665.2 else some 0) else f_L_law_L23 N L xs n23 (v4_23 + 3) size_23 rc_23 g_23 fs_23 st_23 ln_23 su_23 rr_23 cr_23 bc_23 bl_23 td_23 fi_23 fa_23 tk_23 gr_23 se_23 sr_23 x677.2 msz_23 mrn_23 mmy_23 mdf_23 mgu_23 mhs_23 mlv_23 mba_23 mgi_23 mfi_23 mle_23 mst_23 msu_23 mtr_23 mdi_23 mfa_23 mca_23 x665.2) else some 0) else if ((xs ((v4_23 : Int32)).toNatClampNeg) &&& 31) = 12 then gd (inR (v4_23 + 1) L) <| (f_L_answers N size_23 rc_23 g_23 fs_23 st_23 ln_23 su_23 rr_23 cr_23 bc_23 bl_23 td_23 fi_23 fa_23 ou_23 (xs (((v4_23 + 1) : Int32)).toNatClampNeg)).bind fun x721 => gd (inR (v4_23 + 1) L) <| (f_X4_answers N mth_23 msz_23 mrn_23 mmy_23 mdf_23 mgu_23 mba_23 mgi_23 mfi_23 mle_23 mst_23 msu_23 mtr_23 mdi_23 mfa_23 (xs (((v4_23 + 1) : Int32)).toNatClampNeg)).bind fun x733 => (if (f_X4_thrown x733.2.1) = x721.1 then (if x721.1 = 0 then (if (lg_cmp (x721.2.2.2.2.2.2 ((0 : Int32)).toNatClampNeg) ((x733.1 : Int32).toInt64)) = 0 then f_L_law_L23 N L xs n23 (v4_23 + 3) size_23 rc_23 g_23 fs_23 st_23 ln_23 su_23 rr_23 cr_23 x721.2.1 x721.2.2.1 x721.2.2.2.1 x721.2.2.2.2.1 x721.2.2.2.2.2.1 tk_23 gr_23 se_23 sr_23 x733.2.1 msz_23 mrn_23 x733.2.2.1 x733.2.2.2.1 x733.2.2.2.2.1 mhs_23 mlv_23 mba_23 mgi_23 mfi_23 mle_23 mst_23 msu_23 x733.2.2.2.2.2.1 x733.2.2.2.2.2.2.1 x733.2.2.2.2.2.2.2 mca_23 x721.2.2.2.2.2.2 else some 0) else f_L_law_L23 N L xs n23 (v4_23 + 3) size_23 rc_23 g_23 fs_23 st_23 ln_23 su_23 rr_23 cr_23 x721.2.1 x721.2.2.1 x721.2.2.2.1 x721.2.2.2.2.1 x721.2.2.2.2.2.1 tk_23 gr_23 se_23 sr_23 x733.2.1 msz_23 mrn_23 x733.2.2.1 x733.2.2.2.1 x733.2.2.2.2.1 mhs_23 mlv_23 mba_23 mgi_23 mfi_23 mle_23 mst_23 msu_23 x733.2.2.2.2.2.1 x733.2.2.2.2.2.2.1 x733.2.2.2.2.2.2.2 mca_23 x721.2.2.2.2.2.2) else some 0) else if ((xs ((v4_23 : Int32)).toNatClampNeg) &&& 31) = 13 then (f_L_answersByAll N size_23 rc_23 g_23 fs_23 st_23 ln_23 su_23 bc_23 bl_23 td_23 fi_23 ou_23).bind fun x771 => (f_X4_answersByAll N mth_23 msz_23 mrn_23 mmy_23 mba_23 mgi_23 mfi_23 mle_23 mst_23 msu_23 mtr_23 mdi_23).bind fun x777 => (if (f_X4_thrown x777.2.1) = x771.1 then (if x771.1 = 0 then (if (lg_cmp (x771.2.2.2.2.2 ((0 : Int32)).toNatClampNeg) ((x777.1 : Int32).toInt64)) = 0 then f_L_law_L23 N L xs n23 (v4_23 + 3) size_23 rc_23 g_23 fs_23 st_23 ln_23 su_23 rr_23 cr_23 x771.2.1 x771.2.2.1 x771.2.2.2.1 x771.2.2.2.2.1 fa_23 tk_23 gr_23 se_23 sr_23 x777.2.1 msz_23 mrn_23 x777.2.2.1 mdf_23 mgu_23 mhs_23 mlv_23 mba_23 mgi_23 mfi_23 mle_23 mst_23 msu_23 x777.2.2.2.1 x777.2.2.2.2 mfa_23 mca_23 x771.2.2.2.2.2 else some 0) else f_L_law_L23 N L xs n23 (v4_23 + 3) size_23 rc_23 g_23 fs_23 st_23 ln_23 su_23 rr_23 cr_23 x771.2.1 x771.2.2.1 x771.2.2.2.1 x771.2.2.2.2.1 fa_23 tk_23 gr_23 se_23 sr_23 x777.2.1 msz_23 mrn_23 x777.2.2.1 mdf_23 mgu_23 mhs_23 mlv_23 mba_23 mgi_23 mfi_23 mle_23 mst_23 msu_23 x777.2.2.2.1 x777.2.2.2.2 mfa_23 mca_23 x771.2.2.2.2.2) else some 0) else if ((xs ((v4_23 : Int32)).toNatClampNeg) &&& 31) = 14 then (f_L_mend N size_23 rc_23 g_23 fs_23 st_23 ln_23 su_23 rr_23 cr_23 bc_23 bl_23 td_23 fi_23 fa_23 ou_23).bind fun x815 => (f_X4_mend N mth_23 msz_23 mrn_23 mmy_23 mdf_23 mgu_23 mba_23 mgi_23 mfi_23 mle_23 mst_23 msu_23 mtr_23 mdi_23 mfa_23).bind fun x821 => (if (f_X4_thrown x821.2.1) = x815.1 then (if x815.1 = 0 then (if (lg_cmp (x815.2.2.2.2.2.2.2 ((0 : Int32)).toNatClampNeg) ((x821.1 : Int32).toInt64)) = 0 then f_L_law_L23 N L xs n23 (v4_23 + 3) size_23 rc_23 x815.2.1 fs_23 st_23 ln_23 su_23 rr_23 cr_23 x815.2.2.1 x815.2.2.2.1 x815.2.2.2.2.1 x815.2.2.2.2.2.1 x815.2.2.2.2.2.2.1 tk_23 gr_23 se_23 sr_23 x821.2.1 msz_23 mrn_23 x821.2.2.1 x821.2.2.2.1 x821.2.2.2.2.1 mhs_23 mlv_23 mba_23 x821.2.2.2.2.2.1 mfi_23 mle_23 mst_23 msu_23 x821.2.2.2.2.2.2.1 x821.2.2.2.2.2.2.2.1 x821.2.2.2.2.2.2.2.2 mca_23 x815.2.2.2.2.2.2.2 else some 0) else f_L_law_L23 N L xs n23 (v4_23 + 3) size_23 rc_23 x815.2.1 fs_23 st_23 ln_23 su_23 rr_23 cr_23 x815.2.2.1 x815.2.2.2.1 x815.2.2.2.2.1 x815.2.2.2.2.2.1 x815.2.2.2.2.2.2.1 tk_23 gr_23 se_23 sr_23 x821.2.1 msz_23 mrn_23 x821.2.2.1 x821.2.2.2.1 x821.2.2.2.2.1 mhs_23 mlv_23 mba_23 x821.2.2.2.2.2.1 mfi_23 mle_23 mst_23 msu_23 x821.2.2.2.2.2.2.1 x821.2.2.2.2.2.2.2.1 x821.2.2.2.2.2.2.2.2 mca_23 x815.2.2.2.2.2.2.2) else some 0) else if ((xs ((v4_23 : Int32)).toNatClampNeg) &&& 31) = 15 then (f_X3_level N size_23 rc_23 g_23 fs_23 st_23 ln_23 su_23 tk_23 gr_23 se_23 sr_23).bind fun x858 => (f_X4_level N mth_23 msz_23 mrn_23 mhs_23 mlv_23 mba_23 mgi_23 mfi_23 mle_23 mst_23 msu_23 mca_23).bind fun x862 => (if x858.1 = x862.1 then f_L_law_L23 N L xs n23 (v4_23 + 3) size_23 rc_23 g_23 fs_23 st_23 ln_23 su_23 rr_23 cr_23 bc_23 bl_23 td_23 fi_23 fa_23 x858.2.1 x858.2.2.1 x858.2.2.2.1 x858.2.2.2.2 x862.2.1 msz_23 mrn_23 mmy_23 mdf_23 mgu_23 x862.2.2.1 x862.2.2.2.1 mba_23 mgi_23 mfi_23 mle_23 mst_23 msu_23 mtr_23 mdi_23 mfa_23 x862.2.2.2.2 ou_23 else some 0) else if ((xs ((v4_23 : Int32)).toNatClampNeg) &&& 31) = 16 then gd (inR (v4_23 + 1) L) <| gd (inR (v4_23 + 2) L) <| (f_L_candidates N size_23 rc_23 g_23 fs_23 st_23 ln_23 su_23 tk_23 gr_23 se_23 sr_23 ou_23 (xs (((v4_23 + 1) : Int32)).toNatClampNeg) (xs (((v4_23 + 2) : Int32)).toNatClampNeg)).bind fun x884 => gd (inR (v4_23 + 1) L) <| gd (inR (v4_23 + 2) L) <| (f_X4_candidates N mth_23 msz_23 mrn_23 mhs_23 mlv_23 mba_23 mgi_23 mfi_23 mle_23 mst_23 msu_23 mca_23 (xs (((v4_23 + 1) : Int32)).toNatClampNeg) (xs (((v4_23 + 2) : Int32)).toNatClampNeg)).bind fun x902 => (if (f_X4_thrown x902.2.1) = x884.1 then (if x884.1 = 0 then (if (lg_cmp (x884.2.2.2.2.2 ((0 : Int32)).toNatClampNeg) ((x902.1 : Int32).toInt64)) = 0 then f_L_law_L23 N L xs n23 (v4_23 + 3) size_23 rc_23 g_23 fs_23 st_23 ln_23 su_23 rr_23 cr_23 bc_23 bl_23 td_23 fi_23 fa_23 x884.2.1 x884.2.2.1 x884.2.2.2.1 x884.2.2.2.2.1 x902.2.1 msz_23 mrn_23 mmy_23 mdf_23 mgu_23 x902.2.2.1 x902.2.2.2.1 mba_23 mgi_23 mfi_23 mle_23 mst_23 msu_23 mtr_23 mdi_23 mfa_23 x902.2.2.2.2 x884.2.2.2.2.2 else some 0) else f_L_law_L23 N L xs n23 (v4_23 + 3) size_23 rc_23 g_23 fs_23 st_23 ln_23 su_23 rr_23 cr_23 bc_23 bl_23 td_23 fi_23 fa_23 x884.2.1 x884.2.2.1 x884.2.2.2.1 x884.2.2.2.2.1 x902.2.1 msz_23 mrn_23 mmy_23 mdf_23 mgu_23 x902.2.2.1 x902.2.2.2.1 mba_23 mgi_23 mfi_23 mle_23 mst_23 msu_23 mtr_23 mdi_23 mfa_23 x902.2.2.2.2 x884.2.2.2.2.2) else some 0) else if ((xs ((v4_23 : Int32)).toNatClampNeg) &&& 31) = 17 then (f_X3_hint N size_23 rc_23 g_23 fs_23 st_23 ln_23 su_23 tk_23 gr_23 se_23 sr_23).bind fun x939 => (f_X4_hint N mth_23 msz_23 mrn_23 mhs_23 mlv_23 mba_23 mgi_23 mfi_23 mle_23 mst_23 msu_23 mca_23).bind fun x943 => (if x939.1 = x943.1 then f_L_law_L23 N L xs n23 (v4_23 + 3) size_23 rc_23 g_23 fs_23 st_23 ln_23 su_23 rr_23 cr_23 bc_23 bl_23 td_23 fi_23 fa_23 x939.2.1 x939.2.2.1 x939.2.2.2.1 x939.2.2.2.2 x943.2.1 msz_23 mrn_23 mmy_23 mdf_23 mgu_23 x943.2.2.1 x943.2.2.2.1 mba_23 mgi_23 mfi_23 mle_23 mst_23 msu_23 mtr_23 mdi_23 mfa_23 x943.2.2.2.2 ou_23 else some 0) else if ((xs ((v4_23 : Int32)).toNatClampNeg) &&& 31) = 18 then (f_X3_hintRules N size_23 rc_23 g_23 fs_23 st_23 ln_23 su_23 tk_23 gr_23 se_23 sr_23).bind fun x952 => (f_X4_hintRules N mth_23 msz_23 mrn_23 mhs_23 mlv_23 mba_23 mgi_23 mfi_23 mle_23 mst_23 msu_23 mca_23).bind fun x956 => (if x952.1 = x956.1 then f_L_law_L23 N L xs n23 (v4_23 + 3) size_23 rc_23 g_23 fs_23 st_23 ln_23 su_23 rr_23 cr_23 bc_23 bl_23 td_23 fi_23 fa_23 x952.2.1 x952.2.2.1 x952.2.2.2.1 x952.2.2.2.2 x956.2.1 msz_23 mrn_23 mmy_23 mdf_23 mgu_23 x956.2.2.1 x956.2.2.2.1 mba_23 mgi_23 mfi_23 mle_23 mst_23 msu_23 mtr_23 mdi_23 mfa_23 x956.2.2.2.2 ou_23 else some 0) else f_L_law_L23 N L xs n23 (v4_23 + 3) size_23 rc_23 g_23 fs_23 st_23 ln_23 su_23 rr_23 cr_23 bc_23 bl_23 td_23 fi_23 fa_23 tk_23 gr_23 se_23 sr_23 mth_23 msz_23 mrn_23 mmy_23 mdf_23 mgu_23 mhs_23 mlv_23 mba_23 mgi_23 mfi_23 mle_23 mst_23 msu_23 mtr_23 mdi_23 mfa_23 mca_23 ou_23))
set_option maxRecDepth 100000 in
set_option maxHeartbeats 40000000 in
theorem law_loop {p : Program} {e : Env} {s : State} {m : MethodId} {below : List Frame} {meth : Method} {c : Code} (l : Launch) (hst : l.stackTraces = false) (D : va_G) (cI cZ cJ : ClassId) (ad md : Nat → Nat) (oa : Nat) {b L : Nat} {xs : Nat → Int32} (hx : p.tables.exec = Jvm.exec) (hb : c.code = cL_law) (hr : meth.sig.returnType = ret) (hml : c.maxLocals = 7) (hown : s.vm.findClass RL = some m.cls) (hts : ∀ w ∈ wsL_law, w.before #[Value.ref b] s = true) (hXs : va_X b L xs s s.heap) (hbl : b < s.heap.size) (hlocks : meth.locks = false)
    (hK : KK D cI cZ s) (hXS : XS (fun q : Nat => s.heap.size ≤ q) s s.heap) (hKJ : va_K D vwCl [(cJ, .long)] s) (hNC : NC s) (N : Nat)  : ∀ (nn : Nat) (v4_23 : Int32) (size_23 : Int32) (rc_23 : Int32) (g_23 : Nat → Int32) (fs_23 : Nat → Int32) (st_23 : Nat → Int32) (ln_23 : Nat → Int32) (su_23 : Nat → Int32) (rr_23 : Nat → Int32) (cr_23 : Nat → Int32) (bc_23 : Int32) (bl_23 : Nat → Int32) (td_23 : Nat → Int32) (fi_23 : Nat → Int32) (fa_23 : Nat → Int32) (tk_23 : Int32) (gr_23 : Int32) (se_23 : Nat → Int32) (sr_23 : Nat → Int32) (mth_23 : Int32) (msz_23 : Int32) (mrn_23 : Int32) (mmy_23 : Int32) (mdf_23 : Int32) (mgu_23 : Int32) (mhs_23 : Int32) (mlv_23 : Int32) (mba_23 : Nat → Int32) (mgi_23 : Nat → Int32) (mfi_23 : Nat → Int32) (mle_23 : Nat → Int32) (mst_23 : Nat → Int32) (msu_23 : Nat → Int32) (mtr_23 : Nat → Int32) (mdi_23 : Nat → Int32) (mfa_23 : Nat → Int32) (mca_23 : Nat → Int32) (ou_23 : Nat → Int64), nn ≤ 600 → f_L_law_L23 N L xs nn v4_23 size_23 rc_23 g_23 fs_23 st_23 ln_23 su_23 rr_23 cr_23 bc_23 bl_23 td_23 fi_23 fa_23 tk_23 gr_23 se_23 sr_23 mth_23 msz_23 mrn_23 mmy_23 mdf_23 mgu_23 mhs_23 mlv_23 mba_23 mgi_23 mfi_23 mle_23 mst_23 msu_23 mtr_23 mdi_23 mfa_23 mca_23 ou_23 = some 1 → ∀ (H : Heap) (locs : List Loc) (ls : Array Slot), va_P D vwCl (wLL cI cZ cJ ad md oa size_23 rc_23 g_23 fs_23 st_23 ln_23 su_23 rr_23 cr_23 bc_23 bl_23 td_23 fi_23 fa_23 tk_23 gr_23 se_23 sr_23 mth_23 msz_23 mrn_23 mmy_23 mdf_23 mgu_23 mhs_23 mlv_23 mba_23 mgi_23 mfi_23 mle_23 mst_23 msu_23 mtr_23 mdi_23 mfa_23 mca_23 ou_23) H → va_D (fun q : Nat => s.heap.size ≤ q) (wLL cI cZ cJ ad md oa size_23 rc_23 g_23 fs_23 st_23 ln_23 su_23 rr_23 cr_23 bc_23 bl_23 td_23 fi_23 fa_23 tk_23 gr_23 se_23 sr_23 mth_23 msz_23 mrn_23 mmy_23 mdf_23 mgu_23 mhs_23 mlv_23 mba_23 mgi_23 mfi_23 mle_23 mst_23 msu_23 mtr_23 mdi_23 mfa_23 mca_23 ou_23) → va_S (fun q : Nat => s.heap.size ≤ q) s.heap H locs → lv_has ls 7 [(0, .ref b), (1, .ref (ad 16)), (2, .ref (md 0)), (3, .ref oa), (4, .int v4_23)] → W p l e room_1 s m #[Value.ref b] below meth c H locs (660388 - 4 * nn) (7114941 - 24 * nn) (lw_Z below #[Value.ref b] s) (F0 m 23 ls []) := by
  have hA : ∀ q : Nat, s.heap.size ≤ q → (fun q : Nat => s.heap.size ≤ q) q := fun _ h => h
  have hbA : ¬ (fun q : Nat => s.heap.size ≤ q) b := Nat.not_le.mpr hbl
  intro nn
  induction nn with
  | zero => intro _ _ _ _ _ _ _ _ _ _ _ _ _ _ _ _ _ _ _ _ _ _ _ _ _ _ _ _ _ _ _ _ _ _ _ _ _ _ _ hf; exact nomatch (show (none : Option Int32) = some 1 from hf)
  | succ n23 ih23 =>
    intro v4_23 size_23 rc_23 g_23 fs_23 st_23 ln_23 su_23 rr_23 cr_23 bc_23 bl_23 td_23 fi_23 fa_23 tk_23 gr_23 se_23 sr_23 mth_23 msz_23 mrn_23 mmy_23 mdf_23 mgu_23 mhs_23 mlv_23 mba_23 mgi_23 mfi_23 mle_23 mst_23 msu_23 mtr_23 mdi_23 mfa_23 mca_23 ou_23 hn hf H locs ls hP hD hS hl
    rw [f_L_law_L23.eq_2] at hf
    refine lv_iload hx hb dL_law_23 (lv_at hl 4 rfl) ?_
    refine lv_aload_n hx hb dL_law_25 rfl (lv_at hl 0 rfl) ?_
    refine va_slen hx hb hXs hbl hbA hS dL_law_26 ?_
    refine lv_iconst (v := 3) hx hb dL_law_27 (by decide) ?_
    refine lv_isub hx hb dL_law_28 ?_
    refine lv_icmp_gt (tgt := 970) hx hb dL_law_29 (by decide) (fun c_29 => ?_) (fun c_29 => ?_)
    · have hf := ite_t c_29 hf
      refine lv_iconst (v := 1) hx hb dL_law_970 (by decide) ?_
      exact va_forget hS.2.2 (W.widen (by omega) (by omega) (lw_ret hx hb hr hlocks dL_law_971))
    · have hf := ite_f c_29 hf
      refine lv_aload_n hx hb dL_law_32 rfl (lv_at hl 0 rfl) ?_
      refine lv_iload hx hb dL_law_33 (lv_at hl 4 rfl) ?_
      obtain ⟨hz35, hf⟩ := gd_some hf
      refine va_sld hx hb hXs hbl hbA hS hz35 dL_law_35 ?_
      refine lv_bipush (v := 31) hx hb dL_law_36 (by decide) ?_
      refine lv_iand hx hb dL_law_38 ?_
      rcases Decidable.em (((xs ((v4_23 : Int32)).toNatClampNeg) &&& 31) = 0) with c_0 | c_0
      · have hf := ite_t c_0 hf
        refine lv_tableIn (off := 89) (tgt := 128) hx hb dL_law_39 (by rw [c_0]; decide) (by rw [c_0]; decide) (by rw [c_0]; rfl) (by decide) ?_
        refine lv_aload_n hx hb dL_law_128 rfl (lv_at hl 1 rfl) ?_
        refine lv_aload_n hx hb dL_law_129 rfl (lv_at hl 0 rfl) ?_
        refine lv_iload hx hb dL_law_130 (lv_at hl 4 rfl) ?_
        refine lv_iconst (v := 1) hx hb dL_law_132 (by decide) ?_
        refine lv_iadd hx hb dL_law_133 ?_
        obtain ⟨hz134, hf⟩ := gd_some hf
        refine va_sld hx hb hXs hbl hbA hS hz134 dL_law_134 ?_
        obtain ⟨x135, hy135, hf⟩ := Option.bind_eq_some_iff.mp hf
        refine clSW_i (As := [.ref (ad 16), .int (xs (((v4_23 + 1) : Int32)).toNatClampNeg)]) (rest := []) (wLL cI cZ cJ ad md oa x135.2.1 x135.2.2.1 x135.2.2.2.1 x135.2.2.2.2.1 x135.2.2.2.2.2.1 x135.2.2.2.2.2.2.1 x135.2.2.2.2.2.2.2.1 x135.2.2.2.2.2.2.2.2.1 x135.2.2.2.2.2.2.2.2.2 bc_23 bl_23 td_23 fi_23 fa_23 tk_23 gr_23 se_23 sr_23 mth_23 msz_23 mrn_23 mmy_23 mdf_23 mgu_23 mhs_23 mlv_23 mba_23 mgi_23 mfi_23 mle_23 mst_23 msu_23 mtr_23 mdi_23 mfa_23 mca_23 ou_23) ⟨hx, hb, hml, hown, hts⟩ (K_L_begin l hst D cI cZ cJ ad oa H.size N size_23 rc_23 g_23 fs_23 st_23 ln_23 su_23 rr_23 cr_23 bc_23 bl_23 td_23 fi_23 fa_23 tk_23 gr_23 se_23 sr_23 ou_23 (xs (((v4_23 + 1) : Int32)).toNatClampNeg) _ hy135) (vx_cwSW 2 hts gL_law_L_begin rfl rfl rfl (by decide +kernel) ⟨Nat.le_of_ble_eq_true rfl, Nat.le_of_ble_eq_true rfl⟩) hK hXS hKJ hNC hP hD hS hA hl.1 [0, 1, 2, 3, 4, 5, 6, 7, 8, 9, 10, 11, 12, 13, 14, 15, 16, 28] (by decide) rfl rfl rfl rfl rfl (Nat.le_of_ble_eq_true rfl) dL_law_135 ⟨by show _ ≤ 660388; omega, by show _ ≤ 7114941; omega⟩ (fun H locs hP hD hS => ?_)
        refine lv_istore (lv' := [(5, .int x135.1), (0, .ref b), (1, .ref (ad 16)), (2, .ref (md 0)), (3, .ref oa), (4, .int v4_23)]) hx hb dL_law_138 hl (by decide) rfl (fun ls hl => ?_)
        refine lv_aload_n hx hb dL_law_140 rfl (lv_at hl 3 rfl) ?_
        refine lv_aload_n hx hb dL_law_141 rfl (lv_at hl 1 rfl) ?_
        refine lv_iload hx hb dL_law_142 (lv_at hl 5 rfl) ?_
        refine lv_iconst (v := 1) hx hb dL_law_144 (by decide) ?_
        refine lv_iadd hx hb dL_law_145 ?_
        obtain ⟨hz146, hf⟩ := gd_some hf
        refine va_sld hx hb hXs hbl hbA hS hz146 dL_law_146 ?_
        obtain ⟨x147, hy147, hf⟩ := Option.bind_eq_some_iff.mp hf
        refine clV_v (As := [.int (xs (((v4_23 + 1) : Int32)).toNatClampNeg)]) (rest := []) (wLL cI cZ cJ ad md oa x135.2.1 x135.2.2.1 x135.2.2.2.1 x135.2.2.2.2.1 x135.2.2.2.2.2.1 x135.2.2.2.2.2.2.1 x135.2.2.2.2.2.2.2.1 x135.2.2.2.2.2.2.2.2.1 x135.2.2.2.2.2.2.2.2.2 bc_23 bl_23 td_23 fi_23 fa_23 tk_23 gr_23 se_23 sr_23 x147.1 x147.2.1 x147.2.2.1 mmy_23 mdf_23 mgu_23 mhs_23 mlv_23 x147.2.2.2.1 x147.2.2.2.2.1 x147.2.2.2.2.2.1 x147.2.2.2.2.2.2.1 x147.2.2.2.2.2.2.2.1 x147.2.2.2.2.2.2.2.2 mtr_23 mdi_23 mfa_23 mca_23 ou_23) ⟨hx, hb, hml, hown, hts⟩ (K_X4_begin l D cI cZ md H.size N mth_23 msz_23 mrn_23 mmy_23 mdf_23 mgu_23 mhs_23 mlv_23 mba_23 mgi_23 mfi_23 mle_23 mst_23 msu_23 mtr_23 mdi_23 mfa_23 mca_23 (xs (((v4_23 + 1) : Int32)).toNatClampNeg) _ hy147) (cwV 1 hts gL_law_X4_begin rfl rfl rfl (by decide +kernel) ⟨Nat.le_of_ble_eq_true rfl, Nat.le_of_ble_eq_true rfl⟩) hK hP hD hS hA hl.1 [17, 18, 19, 20, 21, 22, 23, 24, 25, 26, 27] (by decide) rfl rfl rfl 4 17 rfl rfl rfl rfl rfl (Nat.le_of_ble_eq_true rfl) dL_law_147 ⟨by show _ ≤ 660388; omega, by show _ ≤ 7114941; omega⟩ (fun H locs hP hD hS => ?_)
        refine lv_aload_n hx hb dL_law_150 rfl (lv_at hl 3 rfl) ?_
        refine clV_i (As := []) (rest := []) (wLL cI cZ cJ ad md oa x135.2.1 x135.2.2.1 x135.2.2.2.1 x135.2.2.2.2.1 x135.2.2.2.2.2.1 x135.2.2.2.2.2.2.1 x135.2.2.2.2.2.2.2.1 x135.2.2.2.2.2.2.2.2.1 x135.2.2.2.2.2.2.2.2.2 bc_23 bl_23 td_23 fi_23 fa_23 tk_23 gr_23 se_23 sr_23 x147.1 x147.2.1 x147.2.2.1 mmy_23 mdf_23 mgu_23 mhs_23 mlv_23 x147.2.2.2.1 x147.2.2.2.2.1 x147.2.2.2.2.2.1 x147.2.2.2.2.2.2.1 x147.2.2.2.2.2.2.2.1 x147.2.2.2.2.2.2.2.2 mtr_23 mdi_23 mfa_23 mca_23 ou_23) ⟨hx, hb, hml, hown, hts⟩ (K_X4_thrown l D cI cZ md H.size x147.1 x147.2.1 x147.2.2.1 mmy_23 mdf_23 mgu_23 mhs_23 mlv_23 x147.2.2.2.1 x147.2.2.2.2.1 x147.2.2.2.2.2.1 x147.2.2.2.2.2.2.1 x147.2.2.2.2.2.2.2.1 x147.2.2.2.2.2.2.2.2 mtr_23 mdi_23 mfa_23 mca_23 _ rfl) (cwV 0 hts gL_law_X4_thrown rfl rfl rfl (by decide +kernel) ⟨Nat.le_of_ble_eq_true rfl, Nat.le_of_ble_eq_true rfl⟩) hK hP hD hS hA hl.1 [17, 18, 19, 20, 21, 22, 23, 24, 25, 26, 27] (by decide) rfl rfl rfl 4 17 rfl rfl rfl rfl rfl (Nat.le_of_ble_eq_true rfl) dL_law_151 ⟨by show _ ≤ 660388; omega, by show _ ≤ 7114941; omega⟩ (fun H locs hP hD hS => ?_)
        refine lv_iload hx hb dL_law_154 (lv_at hl 0 rfl) ?_
        refine lv_icmp_eq (tgt := 161) hx hb dL_law_156 (by decide) (fun c_156 => ?_) (fun c_156 => ?_)
        · have hf := ite_t c_156 hf
          refine lv_goto (tgt := 964) hx hb dL_law_161 (by decide) ?_
          refine lv_iinc (v := (v4_23 + 3)) (lv' := [(4, .int (v4_23 + 3)), (5, .int x135.1), (0, .ref b), (1, .ref (ad 16)), (2, .ref (md 0)), (3, .ref oa)]) hx hb dL_law_964 hl (k := 5) rfl rfl (by decide) rfl (fun ls hl => ?_)
          refine lv_goto (tgt := 23) hx hb dL_law_967 (by decide) ?_
          refine W.widen (k := 660388 - 4 * n23) (n := 7114941 - 24 * n23) (by omega) (by omega) ?_
          exact ih23 (v4_23 + 3) x135.2.1 x135.2.2.1 x135.2.2.2.1 x135.2.2.2.2.1 x135.2.2.2.2.2.1 x135.2.2.2.2.2.2.1 x135.2.2.2.2.2.2.2.1 x135.2.2.2.2.2.2.2.2.1 x135.2.2.2.2.2.2.2.2.2 bc_23 bl_23 td_23 fi_23 fa_23 tk_23 gr_23 se_23 sr_23 x147.1 x147.2.1 x147.2.2.1 mmy_23 mdf_23 mgu_23 mhs_23 mlv_23 x147.2.2.2.1 x147.2.2.2.2.1 x147.2.2.2.2.2.1 x147.2.2.2.2.2.2.1 x147.2.2.2.2.2.2.2.1 x147.2.2.2.2.2.2.2.2 mtr_23 mdi_23 mfa_23 mca_23 ou_23 (by omega) hf _ _ _ hP hD hS (lv_sub hl [2, 3, 4, 5, 0] rfl)
        · have hf := ite_f c_156 hf
          refine lv_iconst (v := 0) hx hb dL_law_159 (by decide) ?_
          exact absurd (Option.some.inj hf) (by decide)
      have hf := ite_f c_0 hf
      rcases Decidable.em (((xs ((v4_23 : Int32)).toNatClampNeg) &&& 31) = 1) with c_1 | c_1
      · have hf := ite_t c_1 hf
        refine lv_tableIn (off := 125) (tgt := 164) hx hb dL_law_39 (by rw [c_1]; decide) (by rw [c_1]; decide) (by rw [c_1]; rfl) (by decide) ?_
        refine lv_aload_n hx hb dL_law_164 rfl (lv_at hl 1 rfl) ?_
        refine lv_aload_n hx hb dL_law_165 rfl (lv_at hl 0 rfl) ?_
        refine lv_iload hx hb dL_law_166 (lv_at hl 4 rfl) ?_
        refine lv_iconst (v := 1) hx hb dL_law_168 (by decide) ?_
        refine lv_iadd hx hb dL_law_169 ?_
        obtain ⟨hz170, hf⟩ := gd_some hf
        refine va_sld hx hb hXs hbl hbA hS hz170 dL_law_170 ?_
        refine lv_aload_n hx hb dL_law_171 rfl (lv_at hl 3 rfl) ?_
        obtain ⟨x172, hy172, hf⟩ := Option.bind_eq_some_iff.mp hf
        refine clSW_i (As := [.ref (ad 16), .int (xs (((v4_23 + 1) : Int32)).toNatClampNeg), .ref oa]) (rest := []) (wLL cI cZ cJ ad md oa size_23 x172.2.1 x172.2.2.1 x172.2.2.2.1 x172.2.2.2.2.1 x172.2.2.2.2.2.1 x172.2.2.2.2.2.2.1 x172.2.2.2.2.2.2.2.1 x172.2.2.2.2.2.2.2.2.1 bc_23 bl_23 td_23 fi_23 fa_23 tk_23 gr_23 se_23 sr_23 mth_23 msz_23 mrn_23 mmy_23 mdf_23 mgu_23 mhs_23 mlv_23 mba_23 mgi_23 mfi_23 mle_23 mst_23 msu_23 mtr_23 mdi_23 mfa_23 mca_23 x172.2.2.2.2.2.2.2.2.2) ⟨hx, hb, hml, hown, hts⟩ (K_L_bar l hst D cI cZ cJ ad oa H.size N size_23 rc_23 g_23 fs_23 st_23 ln_23 su_23 rr_23 cr_23 bc_23 bl_23 td_23 fi_23 fa_23 tk_23 gr_23 se_23 sr_23 ou_23 (xs (((v4_23 + 1) : Int32)).toNatClampNeg) _ hy172) (vx_cwSW 3 hts gL_law_L_bar rfl rfl rfl (by decide +kernel) ⟨Nat.le_of_ble_eq_true rfl, Nat.le_of_ble_eq_true rfl⟩) hK hXS hKJ hNC hP hD hS hA hl.1 [0, 1, 2, 3, 4, 5, 6, 7, 8, 9, 10, 11, 12, 13, 14, 15, 16, 28] (by decide) rfl rfl rfl rfl rfl (Nat.le_of_ble_eq_true rfl) dL_law_172 ⟨by show _ ≤ 660388; omega, by show _ ≤ 7114941; omega⟩ (fun H locs hP hD hS => ?_)
        refine lv_istore (lv' := [(5, .int x172.1), (0, .ref b), (1, .ref (ad 16)), (2, .ref (md 0)), (3, .ref oa), (4, .int v4_23)]) hx hb dL_law_175 hl (by decide) rfl (fun ls hl => ?_)
        refine lv_aload_n hx hb dL_law_177 rfl (lv_at hl 3 rfl) ?_
        refine lv_aload_n hx hb dL_law_178 rfl (lv_at hl 1 rfl) ?_
        refine lv_iload hx hb dL_law_179 (lv_at hl 5 rfl) ?_
        refine lv_iconst (v := 1) hx hb dL_law_181 (by decide) ?_
        refine lv_iadd hx hb dL_law_182 ?_
        obtain ⟨hz183, hf⟩ := gd_some hf
        refine va_sld hx hb hXs hbl hbA hS hz183 dL_law_183 ?_
        obtain ⟨x184, hy184, hf⟩ := Option.bind_eq_some_iff.mp hf
        refine clV_i (As := [.int (xs (((v4_23 + 1) : Int32)).toNatClampNeg)]) (rest := []) (wLL cI cZ cJ ad md oa size_23 x172.2.1 x172.2.2.1 x172.2.2.2.1 x172.2.2.2.2.1 x172.2.2.2.2.2.1 x172.2.2.2.2.2.2.1 x172.2.2.2.2.2.2.2.1 x172.2.2.2.2.2.2.2.2.1 bc_23 bl_23 td_23 fi_23 fa_23 tk_23 gr_23 se_23 sr_23 x184.2.1 msz_23 x184.2.2.1 mmy_23 mdf_23 mgu_23 mhs_23 mlv_23 x184.2.2.2.1 x184.2.2.2.2.1 x184.2.2.2.2.2.1 x184.2.2.2.2.2.2.1 x184.2.2.2.2.2.2.2.1 x184.2.2.2.2.2.2.2.2 mtr_23 mdi_23 mfa_23 mca_23 x172.2.2.2.2.2.2.2.2.2) ⟨hx, hb, hml, hown, hts⟩ (K_X4_bar l D cI cZ md H.size N mth_23 msz_23 mrn_23 mmy_23 mdf_23 mgu_23 mhs_23 mlv_23 mba_23 mgi_23 mfi_23 mle_23 mst_23 msu_23 mtr_23 mdi_23 mfa_23 mca_23 (xs (((v4_23 + 1) : Int32)).toNatClampNeg) _ hy184) (cwV 1 hts gL_law_X4_bar rfl rfl rfl (by decide +kernel) ⟨Nat.le_of_ble_eq_true rfl, Nat.le_of_ble_eq_true rfl⟩) hK hP hD hS hA hl.1 [17, 18, 19, 20, 21, 22, 23, 24, 25, 26, 27] (by decide) rfl rfl rfl 4 17 rfl rfl rfl rfl rfl (Nat.le_of_ble_eq_true rfl) dL_law_184 ⟨by show _ ≤ 660388; omega, by show _ ≤ 7114941; omega⟩ (fun H locs hP hD hS => ?_)
        refine lv_istore (lv' := [(6, .int x184.1), (5, .int x172.1), (0, .ref b), (1, .ref (ad 16)), (2, .ref (md 0)), (3, .ref oa), (4, .int v4_23)]) hx hb dL_law_187 hl (by decide) rfl (fun ls hl => ?_)
        refine lv_aload_n hx hb dL_law_189 rfl (lv_at hl 4 rfl) ?_
        refine clV_i (As := []) (rest := []) (wLL cI cZ cJ ad md oa size_23 x172.2.1 x172.2.2.1 x172.2.2.2.1 x172.2.2.2.2.1 x172.2.2.2.2.2.1 x172.2.2.2.2.2.2.1 x172.2.2.2.2.2.2.2.1 x172.2.2.2.2.2.2.2.2.1 bc_23 bl_23 td_23 fi_23 fa_23 tk_23 gr_23 se_23 sr_23 x184.2.1 msz_23 x184.2.2.1 mmy_23 mdf_23 mgu_23 mhs_23 mlv_23 x184.2.2.2.1 x184.2.2.2.2.1 x184.2.2.2.2.2.1 x184.2.2.2.2.2.2.1 x184.2.2.2.2.2.2.2.1 x184.2.2.2.2.2.2.2.2 mtr_23 mdi_23 mfa_23 mca_23 x172.2.2.2.2.2.2.2.2.2) ⟨hx, hb, hml, hown, hts⟩ (K_X4_thrown l D cI cZ md H.size x184.2.1 msz_23 x184.2.2.1 mmy_23 mdf_23 mgu_23 mhs_23 mlv_23 x184.2.2.2.1 x184.2.2.2.2.1 x184.2.2.2.2.2.1 x184.2.2.2.2.2.2.1 x184.2.2.2.2.2.2.2.1 x184.2.2.2.2.2.2.2.2 mtr_23 mdi_23 mfa_23 mca_23 _ rfl) (cwV 0 hts gL_law_X4_thrown rfl rfl rfl (by decide +kernel) ⟨Nat.le_of_ble_eq_true rfl, Nat.le_of_ble_eq_true rfl⟩) hK hP hD hS hA hl.1 [17, 18, 19, 20, 21, 22, 23, 24, 25, 26, 27] (by decide) rfl rfl rfl 4 17 rfl rfl rfl rfl rfl (Nat.le_of_ble_eq_true rfl) dL_law_190 ⟨by show _ ≤ 660388; omega, by show _ ≤ 7114941; omega⟩ (fun H locs hP hD hS => ?_)
        refine lv_iload hx hb dL_law_193 (lv_at hl 1 rfl) ?_
        refine lv_icmp_eq (tgt := 200) hx hb dL_law_195 (by decide) (fun c_195 => ?_) (fun c_195 => ?_)
        · have hf := ite_t c_195 hf
          refine lv_iload hx hb dL_law_200 (lv_at hl 1 rfl) ?_
          refine lv_if_ne (tgt := 224) hx hb dL_law_202 (by decide) (fun c_202 => ?_) (fun c_202 => ?_)
          · have hf := ite_f c_202 hf
            refine lv_goto (tgt := 964) hx hb dL_law_224 (by decide) ?_
            refine lv_iinc (v := (v4_23 + 3)) (lv' := [(4, .int (v4_23 + 3)), (6, .int x184.1), (5, .int x172.1), (0, .ref b), (1, .ref (ad 16)), (2, .ref (md 0)), (3, .ref oa)]) hx hb dL_law_964 hl (k := 6) rfl rfl (by decide) rfl (fun ls hl => ?_)
            refine lv_goto (tgt := 23) hx hb dL_law_967 (by decide) ?_
            refine W.widen (k := 660388 - 4 * n23) (n := 7114941 - 24 * n23) (by omega) (by omega) ?_
            exact ih23 (v4_23 + 3) size_23 x172.2.1 x172.2.2.1 x172.2.2.2.1 x172.2.2.2.2.1 x172.2.2.2.2.2.1 x172.2.2.2.2.2.2.1 x172.2.2.2.2.2.2.2.1 x172.2.2.2.2.2.2.2.2.1 bc_23 bl_23 td_23 fi_23 fa_23 tk_23 gr_23 se_23 sr_23 x184.2.1 msz_23 x184.2.2.1 mmy_23 mdf_23 mgu_23 mhs_23 mlv_23 x184.2.2.2.1 x184.2.2.2.2.1 x184.2.2.2.2.2.1 x184.2.2.2.2.2.2.1 x184.2.2.2.2.2.2.2.1 x184.2.2.2.2.2.2.2.2 mtr_23 mdi_23 mfa_23 mca_23 x172.2.2.2.2.2.2.2.2.2 (by omega) hf _ _ _ hP hD hS (lv_sub hl [3, 4, 5, 6, 0] rfl)
          · have hf := ite_t c_202 hf
            refine lv_aload_n hx hb dL_law_205 rfl (lv_at hl 5 rfl) ?_
            refine lv_iconst (v := 0) hx hb dL_law_206 (by decide) ?_
            refine va_lald hx hb hKJ hP 28 0 rfl rfl (show inR 0 1 from by decide) dL_law_207 ?_
            refine lv_iload hx hb dL_law_208 (lv_at hl 0 rfl) ?_
            refine lv_if_eq (tgt := 217) hx hb dL_law_210 (by decide) (fun c_210 => ?_) (fun c_210 => ?_)
            · have hf := ite_t c_210 hf
              refine lv_lconst (v := 0) hx hb dL_law_217 rfl ?_
              refine W.lcmp hx hb dL_law_218 ?_
              refine lv_if_eq (tgt := 224) hx hb dL_law_219 (by decide) (fun c_219 => ?_) (fun c_219 => ?_)
              · have hf := ite_t c_219 hf
                refine lv_goto (tgt := 964) hx hb dL_law_224 (by decide) ?_
                refine lv_iinc (v := (v4_23 + 3)) (lv' := [(4, .int (v4_23 + 3)), (6, .int x184.1), (5, .int x172.1), (0, .ref b), (1, .ref (ad 16)), (2, .ref (md 0)), (3, .ref oa)]) hx hb dL_law_964 hl (k := 6) rfl rfl (by decide) rfl (fun ls hl => ?_)
                refine lv_goto (tgt := 23) hx hb dL_law_967 (by decide) ?_
                refine W.widen (k := 660388 - 4 * n23) (n := 7114941 - 24 * n23) (by omega) (by omega) ?_
                exact ih23 (v4_23 + 3) size_23 x172.2.1 x172.2.2.1 x172.2.2.2.1 x172.2.2.2.2.1 x172.2.2.2.2.2.1 x172.2.2.2.2.2.2.1 x172.2.2.2.2.2.2.2.1 x172.2.2.2.2.2.2.2.2.1 bc_23 bl_23 td_23 fi_23 fa_23 tk_23 gr_23 se_23 sr_23 x184.2.1 msz_23 x184.2.2.1 mmy_23 mdf_23 mgu_23 mhs_23 mlv_23 x184.2.2.2.1 x184.2.2.2.2.1 x184.2.2.2.2.2.1 x184.2.2.2.2.2.2.1 x184.2.2.2.2.2.2.2.1 x184.2.2.2.2.2.2.2.2 mtr_23 mdi_23 mfa_23 mca_23 x172.2.2.2.2.2.2.2.2.2 (by omega) hf _ _ _ hP hD hS (lv_sub hl [3, 4, 5, 6, 0] rfl)
              · have hf := ite_f c_219 hf
                refine lv_iconst (v := 0) hx hb dL_law_222 (by decide) ?_
                exact absurd (Option.some.inj hf) (by decide)
            · have hf := ite_f c_210 hf
              refine lv_lconst (v := 1) hx hb dL_law_213 rfl ?_
              refine lv_goto (tgt := 218) hx hb dL_law_214 (by decide) ?_
              refine W.lcmp hx hb dL_law_218 ?_
              refine lv_if_eq (tgt := 224) hx hb dL_law_219 (by decide) (fun c_219 => ?_) (fun c_219 => ?_)
              · have hf := ite_t c_219 hf
                refine lv_goto (tgt := 964) hx hb dL_law_224 (by decide) ?_
                refine lv_iinc (v := (v4_23 + 3)) (lv' := [(4, .int (v4_23 + 3)), (6, .int x184.1), (5, .int x172.1), (0, .ref b), (1, .ref (ad 16)), (2, .ref (md 0)), (3, .ref oa)]) hx hb dL_law_964 hl (k := 6) rfl rfl (by decide) rfl (fun ls hl => ?_)
                refine lv_goto (tgt := 23) hx hb dL_law_967 (by decide) ?_
                refine W.widen (k := 660388 - 4 * n23) (n := 7114941 - 24 * n23) (by omega) (by omega) ?_
                exact ih23 (v4_23 + 3) size_23 x172.2.1 x172.2.2.1 x172.2.2.2.1 x172.2.2.2.2.1 x172.2.2.2.2.2.1 x172.2.2.2.2.2.2.1 x172.2.2.2.2.2.2.2.1 x172.2.2.2.2.2.2.2.2.1 bc_23 bl_23 td_23 fi_23 fa_23 tk_23 gr_23 se_23 sr_23 x184.2.1 msz_23 x184.2.2.1 mmy_23 mdf_23 mgu_23 mhs_23 mlv_23 x184.2.2.2.1 x184.2.2.2.2.1 x184.2.2.2.2.2.1 x184.2.2.2.2.2.2.1 x184.2.2.2.2.2.2.2.1 x184.2.2.2.2.2.2.2.2 mtr_23 mdi_23 mfa_23 mca_23 x172.2.2.2.2.2.2.2.2.2 (by omega) hf _ _ _ hP hD hS (lv_sub hl [3, 4, 5, 6, 0] rfl)
              · have hf := ite_f c_219 hf
                refine lv_iconst (v := 0) hx hb dL_law_222 (by decide) ?_
                exact absurd (Option.some.inj hf) (by decide)
        · have hf := ite_f c_195 hf
          refine lv_iconst (v := 0) hx hb dL_law_198 (by decide) ?_
          exact absurd (Option.some.inj hf) (by decide)
      have hf := ite_f c_1 hf
      rcases Decidable.em (((xs ((v4_23 : Int32)).toNatClampNeg) &&& 31) = 2) with c_2 | c_2
      · have hf := ite_t c_2 hf
        refine lv_tableIn (off := 188) (tgt := 227) hx hb dL_law_39 (by rw [c_2]; decide) (by rw [c_2]; decide) (by rw [c_2]; rfl) (by decide) ?_
        refine lv_aload_n hx hb dL_law_227 rfl (lv_at hl 1 rfl) ?_
        refine lv_aload_n hx hb dL_law_228 rfl (lv_at hl 0 rfl) ?_
        refine lv_iload hx hb dL_law_229 (lv_at hl 4 rfl) ?_
        refine lv_iconst (v := 1) hx hb dL_law_231 (by decide) ?_
        refine lv_iadd hx hb dL_law_232 ?_
        obtain ⟨hz233, hf⟩ := gd_some hf
        refine va_sld hx hb hXs hbl hbA hS hz233 dL_law_233 ?_
        refine lv_aload_n hx hb dL_law_234 rfl (lv_at hl 3 rfl) ?_
        obtain ⟨x235, hy235, hf⟩ := Option.bind_eq_some_iff.mp hf
        refine clSW_i (As := [.ref (ad 16), .int (xs (((v4_23 + 1) : Int32)).toNatClampNeg), .ref oa]) (rest := []) (wLL cI cZ cJ ad md oa size_23 x235.2.1 x235.2.2.1 x235.2.2.2.1 x235.2.2.2.2.1 x235.2.2.2.2.2.1 x235.2.2.2.2.2.2.1 x235.2.2.2.2.2.2.2.1 x235.2.2.2.2.2.2.2.2.1 bc_23 bl_23 td_23 fi_23 fa_23 tk_23 gr_23 se_23 sr_23 mth_23 msz_23 mrn_23 mmy_23 mdf_23 mgu_23 mhs_23 mlv_23 mba_23 mgi_23 mfi_23 mle_23 mst_23 msu_23 mtr_23 mdi_23 mfa_23 mca_23 x235.2.2.2.2.2.2.2.2.2) ⟨hx, hb, hml, hown, hts⟩ (K_L_barBoth l hst D cI cZ cJ ad oa H.size N size_23 rc_23 g_23 fs_23 st_23 ln_23 su_23 rr_23 cr_23 bc_23 bl_23 td_23 fi_23 fa_23 tk_23 gr_23 se_23 sr_23 ou_23 (xs (((v4_23 + 1) : Int32)).toNatClampNeg) _ hy235) (vx_cwSW 3 hts gL_law_L_barBoth rfl rfl rfl (by decide +kernel) ⟨Nat.le_of_ble_eq_true rfl, Nat.le_of_ble_eq_true rfl⟩) hK hXS hKJ hNC hP hD hS hA hl.1 [0, 1, 2, 3, 4, 5, 6, 7, 8, 9, 10, 11, 12, 13, 14, 15, 16, 28] (by decide) rfl rfl rfl rfl rfl (Nat.le_of_ble_eq_true rfl) dL_law_235 ⟨by show _ ≤ 660388; omega, by show _ ≤ 7114941; omega⟩ (fun H locs hP hD hS => ?_)
        refine lv_istore (lv' := [(5, .int x235.1), (0, .ref b), (1, .ref (ad 16)), (2, .ref (md 0)), (3, .ref oa), (4, .int v4_23)]) hx hb dL_law_238 hl (by decide) rfl (fun ls hl => ?_)
        refine lv_aload_n hx hb dL_law_240 rfl (lv_at hl 3 rfl) ?_
        refine lv_aload_n hx hb dL_law_241 rfl (lv_at hl 1 rfl) ?_
        refine lv_iload hx hb dL_law_242 (lv_at hl 5 rfl) ?_
        refine lv_iconst (v := 1) hx hb dL_law_244 (by decide) ?_
        refine lv_iadd hx hb dL_law_245 ?_
        obtain ⟨hz246, hf⟩ := gd_some hf
        refine va_sld hx hb hXs hbl hbA hS hz246 dL_law_246 ?_
        obtain ⟨x247, hy247, hf⟩ := Option.bind_eq_some_iff.mp hf
        refine clV_i (As := [.int (xs (((v4_23 + 1) : Int32)).toNatClampNeg)]) (rest := []) (wLL cI cZ cJ ad md oa size_23 x235.2.1 x235.2.2.1 x235.2.2.2.1 x235.2.2.2.2.1 x235.2.2.2.2.2.1 x235.2.2.2.2.2.2.1 x235.2.2.2.2.2.2.2.1 x235.2.2.2.2.2.2.2.2.1 bc_23 bl_23 td_23 fi_23 fa_23 tk_23 gr_23 se_23 sr_23 x247.2.1 msz_23 x247.2.2.1 mmy_23 mdf_23 mgu_23 mhs_23 mlv_23 x247.2.2.2.1 x247.2.2.2.2.1 x247.2.2.2.2.2.1 x247.2.2.2.2.2.2.1 x247.2.2.2.2.2.2.2.1 x247.2.2.2.2.2.2.2.2 mtr_23 mdi_23 mfa_23 mca_23 x235.2.2.2.2.2.2.2.2.2) ⟨hx, hb, hml, hown, hts⟩ (K_X4_barBoth l D cI cZ md H.size N mth_23 msz_23 mrn_23 mmy_23 mdf_23 mgu_23 mhs_23 mlv_23 mba_23 mgi_23 mfi_23 mle_23 mst_23 msu_23 mtr_23 mdi_23 mfa_23 mca_23 (xs (((v4_23 + 1) : Int32)).toNatClampNeg) _ hy247) (cwV 1 hts gL_law_X4_barBoth rfl rfl rfl (by decide +kernel) ⟨Nat.le_of_ble_eq_true rfl, Nat.le_of_ble_eq_true rfl⟩) hK hP hD hS hA hl.1 [17, 18, 19, 20, 21, 22, 23, 24, 25, 26, 27] (by decide) rfl rfl rfl 4 17 rfl rfl rfl rfl rfl (Nat.le_of_ble_eq_true rfl) dL_law_247 ⟨by show _ ≤ 660388; omega, by show _ ≤ 7114941; omega⟩ (fun H locs hP hD hS => ?_)
        refine lv_istore (lv' := [(6, .int x247.1), (5, .int x235.1), (0, .ref b), (1, .ref (ad 16)), (2, .ref (md 0)), (3, .ref oa), (4, .int v4_23)]) hx hb dL_law_250 hl (by decide) rfl (fun ls hl => ?_)
        refine lv_aload_n hx hb dL_law_252 rfl (lv_at hl 4 rfl) ?_
        refine clV_i (As := []) (rest := []) (wLL cI cZ cJ ad md oa size_23 x235.2.1 x235.2.2.1 x235.2.2.2.1 x235.2.2.2.2.1 x235.2.2.2.2.2.1 x235.2.2.2.2.2.2.1 x235.2.2.2.2.2.2.2.1 x235.2.2.2.2.2.2.2.2.1 bc_23 bl_23 td_23 fi_23 fa_23 tk_23 gr_23 se_23 sr_23 x247.2.1 msz_23 x247.2.2.1 mmy_23 mdf_23 mgu_23 mhs_23 mlv_23 x247.2.2.2.1 x247.2.2.2.2.1 x247.2.2.2.2.2.1 x247.2.2.2.2.2.2.1 x247.2.2.2.2.2.2.2.1 x247.2.2.2.2.2.2.2.2 mtr_23 mdi_23 mfa_23 mca_23 x235.2.2.2.2.2.2.2.2.2) ⟨hx, hb, hml, hown, hts⟩ (K_X4_thrown l D cI cZ md H.size x247.2.1 msz_23 x247.2.2.1 mmy_23 mdf_23 mgu_23 mhs_23 mlv_23 x247.2.2.2.1 x247.2.2.2.2.1 x247.2.2.2.2.2.1 x247.2.2.2.2.2.2.1 x247.2.2.2.2.2.2.2.1 x247.2.2.2.2.2.2.2.2 mtr_23 mdi_23 mfa_23 mca_23 _ rfl) (cwV 0 hts gL_law_X4_thrown rfl rfl rfl (by decide +kernel) ⟨Nat.le_of_ble_eq_true rfl, Nat.le_of_ble_eq_true rfl⟩) hK hP hD hS hA hl.1 [17, 18, 19, 20, 21, 22, 23, 24, 25, 26, 27] (by decide) rfl rfl rfl 4 17 rfl rfl rfl rfl rfl (Nat.le_of_ble_eq_true rfl) dL_law_253 ⟨by show _ ≤ 660388; omega, by show _ ≤ 7114941; omega⟩ (fun H locs hP hD hS => ?_)
        refine lv_iload hx hb dL_law_256 (lv_at hl 1 rfl) ?_
        refine lv_icmp_eq (tgt := 263) hx hb dL_law_258 (by decide) (fun c_258 => ?_) (fun c_258 => ?_)
        · have hf := ite_t c_258 hf
          refine lv_iload hx hb dL_law_263 (lv_at hl 1 rfl) ?_
          refine lv_if_ne (tgt := 280) hx hb dL_law_265 (by decide) (fun c_265 => ?_) (fun c_265 => ?_)
          · have hf := ite_f c_265 hf
            refine lv_goto (tgt := 964) hx hb dL_law_280 (by decide) ?_
            refine lv_iinc (v := (v4_23 + 3)) (lv' := [(4, .int (v4_23 + 3)), (6, .int x247.1), (5, .int x235.1), (0, .ref b), (1, .ref (ad 16)), (2, .ref (md 0)), (3, .ref oa)]) hx hb dL_law_964 hl (k := 6) rfl rfl (by decide) rfl (fun ls hl => ?_)
            refine lv_goto (tgt := 23) hx hb dL_law_967 (by decide) ?_
            refine W.widen (k := 660388 - 4 * n23) (n := 7114941 - 24 * n23) (by omega) (by omega) ?_
            exact ih23 (v4_23 + 3) size_23 x235.2.1 x235.2.2.1 x235.2.2.2.1 x235.2.2.2.2.1 x235.2.2.2.2.2.1 x235.2.2.2.2.2.2.1 x235.2.2.2.2.2.2.2.1 x235.2.2.2.2.2.2.2.2.1 bc_23 bl_23 td_23 fi_23 fa_23 tk_23 gr_23 se_23 sr_23 x247.2.1 msz_23 x247.2.2.1 mmy_23 mdf_23 mgu_23 mhs_23 mlv_23 x247.2.2.2.1 x247.2.2.2.2.1 x247.2.2.2.2.2.1 x247.2.2.2.2.2.2.1 x247.2.2.2.2.2.2.2.1 x247.2.2.2.2.2.2.2.2 mtr_23 mdi_23 mfa_23 mca_23 x235.2.2.2.2.2.2.2.2.2 (by omega) hf _ _ _ hP hD hS (lv_sub hl [3, 4, 5, 6, 0] rfl)
          · have hf := ite_t c_265 hf
            refine lv_aload_n hx hb dL_law_268 rfl (lv_at hl 5 rfl) ?_
            refine lv_iconst (v := 0) hx hb dL_law_269 (by decide) ?_
            refine va_lald hx hb hKJ hP 28 0 rfl rfl (show inR 0 1 from by decide) dL_law_270 ?_
            refine lv_iload hx hb dL_law_271 (lv_at hl 0 rfl) ?_
            refine lv_i2l (v := (x247.1 : Int32).toInt64) hx hb dL_law_273 rfl ?_
            refine W.lcmp hx hb dL_law_274 ?_
            refine lv_if_eq (tgt := 280) hx hb dL_law_275 (by decide) (fun c_275 => ?_) (fun c_275 => ?_)
            · have hf := ite_t c_275 hf
              refine lv_goto (tgt := 964) hx hb dL_law_280 (by decide) ?_
              refine lv_iinc (v := (v4_23 + 3)) (lv' := [(4, .int (v4_23 + 3)), (6, .int x247.1), (5, .int x235.1), (0, .ref b), (1, .ref (ad 16)), (2, .ref (md 0)), (3, .ref oa)]) hx hb dL_law_964 hl (k := 6) rfl rfl (by decide) rfl (fun ls hl => ?_)
              refine lv_goto (tgt := 23) hx hb dL_law_967 (by decide) ?_
              refine W.widen (k := 660388 - 4 * n23) (n := 7114941 - 24 * n23) (by omega) (by omega) ?_
              exact ih23 (v4_23 + 3) size_23 x235.2.1 x235.2.2.1 x235.2.2.2.1 x235.2.2.2.2.1 x235.2.2.2.2.2.1 x235.2.2.2.2.2.2.1 x235.2.2.2.2.2.2.2.1 x235.2.2.2.2.2.2.2.2.1 bc_23 bl_23 td_23 fi_23 fa_23 tk_23 gr_23 se_23 sr_23 x247.2.1 msz_23 x247.2.2.1 mmy_23 mdf_23 mgu_23 mhs_23 mlv_23 x247.2.2.2.1 x247.2.2.2.2.1 x247.2.2.2.2.2.1 x247.2.2.2.2.2.2.1 x247.2.2.2.2.2.2.2.1 x247.2.2.2.2.2.2.2.2 mtr_23 mdi_23 mfa_23 mca_23 x235.2.2.2.2.2.2.2.2.2 (by omega) hf _ _ _ hP hD hS (lv_sub hl [3, 4, 5, 6, 0] rfl)
            · have hf := ite_f c_275 hf
              refine lv_iconst (v := 0) hx hb dL_law_278 (by decide) ?_
              exact absurd (Option.some.inj hf) (by decide)
        · have hf := ite_f c_258 hf
          refine lv_iconst (v := 0) hx hb dL_law_261 (by decide) ?_
          exact absurd (Option.some.inj hf) (by decide)
      have hf := ite_f c_2 hf
      rcases Decidable.em (((xs ((v4_23 : Int32)).toNatClampNeg) &&& 31) = 3) with c_3 | c_3
      · have hf := ite_t c_3 hf
        refine lv_tableIn (off := 244) (tgt := 283) hx hb dL_law_39 (by rw [c_3]; decide) (by rw [c_3]; decide) (by rw [c_3]; rfl) (by decide) ?_
        refine lv_aload_n hx hb dL_law_283 rfl (lv_at hl 1 rfl) ?_
        refine lv_aload_n hx hb dL_law_284 rfl (lv_at hl 0 rfl) ?_
        refine lv_iload hx hb dL_law_285 (lv_at hl 4 rfl) ?_
        refine lv_iconst (v := 1) hx hb dL_law_287 (by decide) ?_
        refine lv_iadd hx hb dL_law_288 ?_
        obtain ⟨hz289, hf⟩ := gd_some hf
        refine va_sld hx hb hXs hbl hbA hS hz289 dL_law_289 ?_
        refine lv_aload_n hx hb dL_law_290 rfl (lv_at hl 0 rfl) ?_
        refine lv_iload hx hb dL_law_291 (lv_at hl 4 rfl) ?_
        refine lv_iconst (v := 2) hx hb dL_law_293 (by decide) ?_
        refine lv_iadd hx hb dL_law_294 ?_
        obtain ⟨hz295, hf⟩ := gd_some hf
        refine va_sld hx hb hXs hbl hbA hS hz295 dL_law_295 ?_
        refine lv_aload_n hx hb dL_law_296 rfl (lv_at hl 3 rfl) ?_
        obtain ⟨x297, hy297, hf⟩ := Option.bind_eq_some_iff.mp hf
        refine clSW_i (As := [.ref (ad 16), .int (xs (((v4_23 + 1) : Int32)).toNatClampNeg), .int (xs (((v4_23 + 2) : Int32)).toNatClampNeg), .ref oa]) (rest := []) (wLL cI cZ cJ ad md oa size_23 rc_23 x297.2.1 fs_23 st_23 ln_23 su_23 rr_23 cr_23 bc_23 bl_23 td_23 fi_23 fa_23 tk_23 gr_23 se_23 sr_23 mth_23 msz_23 mrn_23 mmy_23 mdf_23 mgu_23 mhs_23 mlv_23 mba_23 mgi_23 mfi_23 mle_23 mst_23 msu_23 mtr_23 mdi_23 mfa_23 mca_23 x297.2.2) ⟨hx, hb, hml, hown, hts⟩ (K_L_give l hst D cI cZ cJ ad oa H.size size_23 rc_23 g_23 fs_23 st_23 ln_23 su_23 rr_23 cr_23 bc_23 bl_23 td_23 fi_23 fa_23 tk_23 gr_23 se_23 sr_23 ou_23 (xs (((v4_23 + 1) : Int32)).toNatClampNeg) (xs (((v4_23 + 2) : Int32)).toNatClampNeg) _ hy297) (vx_cwSW 4 hts gL_law_L_give rfl rfl rfl (by decide +kernel) ⟨Nat.le_of_ble_eq_true rfl, Nat.le_of_ble_eq_true rfl⟩) hK hXS hKJ hNC hP hD hS hA hl.1 [0, 1, 2, 3, 4, 5, 6, 7, 8, 9, 10, 11, 12, 13, 14, 15, 16, 28] (by decide) rfl rfl rfl rfl rfl (Nat.le_of_ble_eq_true rfl) dL_law_297 ⟨by show _ ≤ 660388; omega, by show _ ≤ 7114941; omega⟩ (fun H locs hP hD hS => ?_)
        refine lv_istore (lv' := [(5, .int x297.1), (0, .ref b), (1, .ref (ad 16)), (2, .ref (md 0)), (3, .ref oa), (4, .int v4_23)]) hx hb dL_law_300 hl (by decide) rfl (fun ls hl => ?_)
        refine lv_aload_n hx hb dL_law_302 rfl (lv_at hl 3 rfl) ?_
        refine lv_aload_n hx hb dL_law_303 rfl (lv_at hl 1 rfl) ?_
        refine lv_iload hx hb dL_law_304 (lv_at hl 5 rfl) ?_
        refine lv_iconst (v := 1) hx hb dL_law_306 (by decide) ?_
        refine lv_iadd hx hb dL_law_307 ?_
        obtain ⟨hz308, hf⟩ := gd_some hf
        refine va_sld hx hb hXs hbl hbA hS hz308 dL_law_308 ?_
        refine lv_aload_n hx hb dL_law_309 rfl (lv_at hl 1 rfl) ?_
        refine lv_iload hx hb dL_law_310 (lv_at hl 5 rfl) ?_
        refine lv_iconst (v := 2) hx hb dL_law_312 (by decide) ?_
        refine lv_iadd hx hb dL_law_313 ?_
        obtain ⟨hz314, hf⟩ := gd_some hf
        refine va_sld hx hb hXs hbl hbA hS hz314 dL_law_314 ?_
        obtain ⟨x315, hy315, hf⟩ := Option.bind_eq_some_iff.mp hf
        refine clV_i (As := [.int (xs (((v4_23 + 1) : Int32)).toNatClampNeg), .int (xs (((v4_23 + 2) : Int32)).toNatClampNeg)]) (rest := []) (wLL cI cZ cJ ad md oa size_23 rc_23 x297.2.1 fs_23 st_23 ln_23 su_23 rr_23 cr_23 bc_23 bl_23 td_23 fi_23 fa_23 tk_23 gr_23 se_23 sr_23 x315.2.1 msz_23 mrn_23 mmy_23 mdf_23 mgu_23 mhs_23 mlv_23 mba_23 x315.2.2 mfi_23 mle_23 mst_23 msu_23 mtr_23 mdi_23 mfa_23 mca_23 x297.2.2) ⟨hx, hb, hml, hown, hts⟩ (K_X4_give l D cI cZ md H.size mth_23 msz_23 mrn_23 mmy_23 mdf_23 mgu_23 mhs_23 mlv_23 mba_23 mgi_23 mfi_23 mle_23 mst_23 msu_23 mtr_23 mdi_23 mfa_23 mca_23 (xs (((v4_23 + 1) : Int32)).toNatClampNeg) (xs (((v4_23 + 2) : Int32)).toNatClampNeg) _ hy315) (cwV 2 hts gL_law_X4_give rfl rfl rfl (by decide +kernel) ⟨Nat.le_of_ble_eq_true rfl, Nat.le_of_ble_eq_true rfl⟩) hK hP hD hS hA hl.1 [17, 18, 19, 20, 21, 22, 23, 24, 25, 26, 27] (by decide) rfl rfl rfl 4 17 rfl rfl rfl rfl rfl (Nat.le_of_ble_eq_true rfl) dL_law_315 ⟨by show _ ≤ 660388; omega, by show _ ≤ 7114941; omega⟩ (fun H locs hP hD hS => ?_)
        refine lv_istore (lv' := [(6, .int x315.1), (5, .int x297.1), (0, .ref b), (1, .ref (ad 16)), (2, .ref (md 0)), (3, .ref oa), (4, .int v4_23)]) hx hb dL_law_318 hl (by decide) rfl (fun ls hl => ?_)
        refine lv_aload_n hx hb dL_law_320 rfl (lv_at hl 4 rfl) ?_
        refine clV_i (As := []) (rest := []) (wLL cI cZ cJ ad md oa size_23 rc_23 x297.2.1 fs_23 st_23 ln_23 su_23 rr_23 cr_23 bc_23 bl_23 td_23 fi_23 fa_23 tk_23 gr_23 se_23 sr_23 x315.2.1 msz_23 mrn_23 mmy_23 mdf_23 mgu_23 mhs_23 mlv_23 mba_23 x315.2.2 mfi_23 mle_23 mst_23 msu_23 mtr_23 mdi_23 mfa_23 mca_23 x297.2.2) ⟨hx, hb, hml, hown, hts⟩ (K_X4_thrown l D cI cZ md H.size x315.2.1 msz_23 mrn_23 mmy_23 mdf_23 mgu_23 mhs_23 mlv_23 mba_23 x315.2.2 mfi_23 mle_23 mst_23 msu_23 mtr_23 mdi_23 mfa_23 mca_23 _ rfl) (cwV 0 hts gL_law_X4_thrown rfl rfl rfl (by decide +kernel) ⟨Nat.le_of_ble_eq_true rfl, Nat.le_of_ble_eq_true rfl⟩) hK hP hD hS hA hl.1 [17, 18, 19, 20, 21, 22, 23, 24, 25, 26, 27] (by decide) rfl rfl rfl 4 17 rfl rfl rfl rfl rfl (Nat.le_of_ble_eq_true rfl) dL_law_321 ⟨by show _ ≤ 660388; omega, by show _ ≤ 7114941; omega⟩ (fun H locs hP hD hS => ?_)
        refine lv_iload hx hb dL_law_324 (lv_at hl 1 rfl) ?_
        refine lv_icmp_eq (tgt := 331) hx hb dL_law_326 (by decide) (fun c_326 => ?_) (fun c_326 => ?_)
        · have hf := ite_t c_326 hf
          refine lv_iload hx hb dL_law_331 (lv_at hl 1 rfl) ?_
          refine lv_if_ne (tgt := 348) hx hb dL_law_333 (by decide) (fun c_333 => ?_) (fun c_333 => ?_)
          · have hf := ite_f c_333 hf
            refine lv_goto (tgt := 964) hx hb dL_law_348 (by decide) ?_
            refine lv_iinc (v := (v4_23 + 3)) (lv' := [(4, .int (v4_23 + 3)), (6, .int x315.1), (5, .int x297.1), (0, .ref b), (1, .ref (ad 16)), (2, .ref (md 0)), (3, .ref oa)]) hx hb dL_law_964 hl (k := 6) rfl rfl (by decide) rfl (fun ls hl => ?_)
            refine lv_goto (tgt := 23) hx hb dL_law_967 (by decide) ?_
            refine W.widen (k := 660388 - 4 * n23) (n := 7114941 - 24 * n23) (by omega) (by omega) ?_
            exact ih23 (v4_23 + 3) size_23 rc_23 x297.2.1 fs_23 st_23 ln_23 su_23 rr_23 cr_23 bc_23 bl_23 td_23 fi_23 fa_23 tk_23 gr_23 se_23 sr_23 x315.2.1 msz_23 mrn_23 mmy_23 mdf_23 mgu_23 mhs_23 mlv_23 mba_23 x315.2.2 mfi_23 mle_23 mst_23 msu_23 mtr_23 mdi_23 mfa_23 mca_23 x297.2.2 (by omega) hf _ _ _ hP hD hS (lv_sub hl [3, 4, 5, 6, 0] rfl)
          · have hf := ite_t c_333 hf
            refine lv_aload_n hx hb dL_law_336 rfl (lv_at hl 5 rfl) ?_
            refine lv_iconst (v := 0) hx hb dL_law_337 (by decide) ?_
            refine va_lald hx hb hKJ hP 28 0 rfl rfl (show inR 0 1 from by decide) dL_law_338 ?_
            refine lv_iload hx hb dL_law_339 (lv_at hl 0 rfl) ?_
            refine lv_i2l (v := (x315.1 : Int32).toInt64) hx hb dL_law_341 rfl ?_
            refine W.lcmp hx hb dL_law_342 ?_
            refine lv_if_eq (tgt := 348) hx hb dL_law_343 (by decide) (fun c_343 => ?_) (fun c_343 => ?_)
            · have hf := ite_t c_343 hf
              refine lv_goto (tgt := 964) hx hb dL_law_348 (by decide) ?_
              refine lv_iinc (v := (v4_23 + 3)) (lv' := [(4, .int (v4_23 + 3)), (6, .int x315.1), (5, .int x297.1), (0, .ref b), (1, .ref (ad 16)), (2, .ref (md 0)), (3, .ref oa)]) hx hb dL_law_964 hl (k := 6) rfl rfl (by decide) rfl (fun ls hl => ?_)
              refine lv_goto (tgt := 23) hx hb dL_law_967 (by decide) ?_
              refine W.widen (k := 660388 - 4 * n23) (n := 7114941 - 24 * n23) (by omega) (by omega) ?_
              exact ih23 (v4_23 + 3) size_23 rc_23 x297.2.1 fs_23 st_23 ln_23 su_23 rr_23 cr_23 bc_23 bl_23 td_23 fi_23 fa_23 tk_23 gr_23 se_23 sr_23 x315.2.1 msz_23 mrn_23 mmy_23 mdf_23 mgu_23 mhs_23 mlv_23 mba_23 x315.2.2 mfi_23 mle_23 mst_23 msu_23 mtr_23 mdi_23 mfa_23 mca_23 x297.2.2 (by omega) hf _ _ _ hP hD hS (lv_sub hl [3, 4, 5, 6, 0] rfl)
            · have hf := ite_f c_343 hf
              refine lv_iconst (v := 0) hx hb dL_law_346 (by decide) ?_
              exact absurd (Option.some.inj hf) (by decide)
        · have hf := ite_f c_326 hf
          refine lv_iconst (v := 0) hx hb dL_law_329 (by decide) ?_
          exact absurd (Option.some.inj hf) (by decide)
      have hf := ite_f c_3 hf
      rcases Decidable.em (((xs ((v4_23 : Int32)).toNatClampNeg) &&& 31) = 4) with c_4 | c_4
      · have hf := ite_t c_4 hf
        refine lv_tableIn (off := 312) (tgt := 351) hx hb dL_law_39 (by rw [c_4]; decide) (by rw [c_4]; decide) (by rw [c_4]; rfl) (by decide) ?_
        refine lv_aload_n hx hb dL_law_351 rfl (lv_at hl 1 rfl) ?_
        refine lv_aload_n hx hb dL_law_352 rfl (lv_at hl 0 rfl) ?_
        refine lv_iload hx hb dL_law_353 (lv_at hl 4 rfl) ?_
        refine lv_iconst (v := 1) hx hb dL_law_355 (by decide) ?_
        refine lv_iadd hx hb dL_law_356 ?_
        obtain ⟨hz357, hf⟩ := gd_some hf
        refine va_sld hx hb hXs hbl hbA hS hz357 dL_law_357 ?_
        refine lv_aload_n hx hb dL_law_358 rfl (lv_at hl 0 rfl) ?_
        refine lv_iload hx hb dL_law_359 (lv_at hl 4 rfl) ?_
        refine lv_iconst (v := 2) hx hb dL_law_361 (by decide) ?_
        refine lv_iadd hx hb dL_law_362 ?_
        obtain ⟨hz363, hf⟩ := gd_some hf
        refine va_sld hx hb hXs hbl hbA hS hz363 dL_law_363 ?_
        refine lv_aload_n hx hb dL_law_364 rfl (lv_at hl 3 rfl) ?_
        obtain ⟨x365, hy365, hf⟩ := Option.bind_eq_some_iff.mp hf
        refine clSW_i (As := [.ref (ad 16), .int (xs (((v4_23 + 1) : Int32)).toNatClampNeg), .int (xs (((v4_23 + 2) : Int32)).toNatClampNeg), .ref oa]) (rest := []) (wLL cI cZ cJ ad md oa size_23 rc_23 g_23 fs_23 st_23 ln_23 x365.2.1 rr_23 cr_23 bc_23 bl_23 td_23 fi_23 fa_23 tk_23 gr_23 se_23 sr_23 mth_23 msz_23 mrn_23 mmy_23 mdf_23 mgu_23 mhs_23 mlv_23 mba_23 mgi_23 mfi_23 mle_23 mst_23 msu_23 mtr_23 mdi_23 mfa_23 mca_23 x365.2.2) ⟨hx, hb, hml, hown, hts⟩ (K_L_setSum l hst D cI cZ cJ ad oa H.size size_23 rc_23 g_23 fs_23 st_23 ln_23 su_23 rr_23 cr_23 bc_23 bl_23 td_23 fi_23 fa_23 tk_23 gr_23 se_23 sr_23 ou_23 (xs (((v4_23 + 1) : Int32)).toNatClampNeg) (xs (((v4_23 + 2) : Int32)).toNatClampNeg) _ hy365) (vx_cwSW 4 hts gL_law_L_setSum rfl rfl rfl (by decide +kernel) ⟨Nat.le_of_ble_eq_true rfl, Nat.le_of_ble_eq_true rfl⟩) hK hXS hKJ hNC hP hD hS hA hl.1 [0, 1, 2, 3, 4, 5, 6, 7, 8, 9, 10, 11, 12, 13, 14, 15, 16, 28] (by decide) rfl rfl rfl rfl rfl (Nat.le_of_ble_eq_true rfl) dL_law_365 ⟨by show _ ≤ 660388; omega, by show _ ≤ 7114941; omega⟩ (fun H locs hP hD hS => ?_)
        refine lv_istore (lv' := [(5, .int x365.1), (0, .ref b), (1, .ref (ad 16)), (2, .ref (md 0)), (3, .ref oa), (4, .int v4_23)]) hx hb dL_law_368 hl (by decide) rfl (fun ls hl => ?_)
        refine lv_aload_n hx hb dL_law_370 rfl (lv_at hl 3 rfl) ?_
        refine lv_aload_n hx hb dL_law_371 rfl (lv_at hl 1 rfl) ?_
        refine lv_iload hx hb dL_law_372 (lv_at hl 5 rfl) ?_
        refine lv_iconst (v := 1) hx hb dL_law_374 (by decide) ?_
        refine lv_iadd hx hb dL_law_375 ?_
        obtain ⟨hz376, hf⟩ := gd_some hf
        refine va_sld hx hb hXs hbl hbA hS hz376 dL_law_376 ?_
        refine lv_aload_n hx hb dL_law_377 rfl (lv_at hl 1 rfl) ?_
        refine lv_iload hx hb dL_law_378 (lv_at hl 5 rfl) ?_
        refine lv_iconst (v := 2) hx hb dL_law_380 (by decide) ?_
        refine lv_iadd hx hb dL_law_381 ?_
        obtain ⟨hz382, hf⟩ := gd_some hf
        refine va_sld hx hb hXs hbl hbA hS hz382 dL_law_382 ?_
        obtain ⟨x383, hy383, hf⟩ := Option.bind_eq_some_iff.mp hf
        refine clV_i (As := [.int (xs (((v4_23 + 1) : Int32)).toNatClampNeg), .int (xs (((v4_23 + 2) : Int32)).toNatClampNeg)]) (rest := []) (wLL cI cZ cJ ad md oa size_23 rc_23 g_23 fs_23 st_23 ln_23 x365.2.1 rr_23 cr_23 bc_23 bl_23 td_23 fi_23 fa_23 tk_23 gr_23 se_23 sr_23 x383.2.1 msz_23 mrn_23 mmy_23 mdf_23 mgu_23 mhs_23 mlv_23 mba_23 mgi_23 mfi_23 mle_23 mst_23 x383.2.2 mtr_23 mdi_23 mfa_23 mca_23 x365.2.2) ⟨hx, hb, hml, hown, hts⟩ (K_X4_setSum l D cI cZ md H.size mth_23 msz_23 mrn_23 mmy_23 mdf_23 mgu_23 mhs_23 mlv_23 mba_23 mgi_23 mfi_23 mle_23 mst_23 msu_23 mtr_23 mdi_23 mfa_23 mca_23 (xs (((v4_23 + 1) : Int32)).toNatClampNeg) (xs (((v4_23 + 2) : Int32)).toNatClampNeg) _ hy383) (cwV 2 hts gL_law_X4_setSum rfl rfl rfl (by decide +kernel) ⟨Nat.le_of_ble_eq_true rfl, Nat.le_of_ble_eq_true rfl⟩) hK hP hD hS hA hl.1 [17, 18, 19, 20, 21, 22, 23, 24, 25, 26, 27] (by decide) rfl rfl rfl 4 17 rfl rfl rfl rfl rfl (Nat.le_of_ble_eq_true rfl) dL_law_383 ⟨by show _ ≤ 660388; omega, by show _ ≤ 7114941; omega⟩ (fun H locs hP hD hS => ?_)
        refine lv_istore (lv' := [(6, .int x383.1), (5, .int x365.1), (0, .ref b), (1, .ref (ad 16)), (2, .ref (md 0)), (3, .ref oa), (4, .int v4_23)]) hx hb dL_law_386 hl (by decide) rfl (fun ls hl => ?_)
        refine lv_aload_n hx hb dL_law_388 rfl (lv_at hl 4 rfl) ?_
        refine clV_i (As := []) (rest := []) (wLL cI cZ cJ ad md oa size_23 rc_23 g_23 fs_23 st_23 ln_23 x365.2.1 rr_23 cr_23 bc_23 bl_23 td_23 fi_23 fa_23 tk_23 gr_23 se_23 sr_23 x383.2.1 msz_23 mrn_23 mmy_23 mdf_23 mgu_23 mhs_23 mlv_23 mba_23 mgi_23 mfi_23 mle_23 mst_23 x383.2.2 mtr_23 mdi_23 mfa_23 mca_23 x365.2.2) ⟨hx, hb, hml, hown, hts⟩ (K_X4_thrown l D cI cZ md H.size x383.2.1 msz_23 mrn_23 mmy_23 mdf_23 mgu_23 mhs_23 mlv_23 mba_23 mgi_23 mfi_23 mle_23 mst_23 x383.2.2 mtr_23 mdi_23 mfa_23 mca_23 _ rfl) (cwV 0 hts gL_law_X4_thrown rfl rfl rfl (by decide +kernel) ⟨Nat.le_of_ble_eq_true rfl, Nat.le_of_ble_eq_true rfl⟩) hK hP hD hS hA hl.1 [17, 18, 19, 20, 21, 22, 23, 24, 25, 26, 27] (by decide) rfl rfl rfl 4 17 rfl rfl rfl rfl rfl (Nat.le_of_ble_eq_true rfl) dL_law_389 ⟨by show _ ≤ 660388; omega, by show _ ≤ 7114941; omega⟩ (fun H locs hP hD hS => ?_)
        refine lv_iload hx hb dL_law_392 (lv_at hl 1 rfl) ?_
        refine lv_icmp_eq (tgt := 399) hx hb dL_law_394 (by decide) (fun c_394 => ?_) (fun c_394 => ?_)
        · have hf := ite_t c_394 hf
          refine lv_iload hx hb dL_law_399 (lv_at hl 1 rfl) ?_
          refine lv_if_ne (tgt := 416) hx hb dL_law_401 (by decide) (fun c_401 => ?_) (fun c_401 => ?_)
          · have hf := ite_f c_401 hf
            refine lv_goto (tgt := 964) hx hb dL_law_416 (by decide) ?_
            refine lv_iinc (v := (v4_23 + 3)) (lv' := [(4, .int (v4_23 + 3)), (6, .int x383.1), (5, .int x365.1), (0, .ref b), (1, .ref (ad 16)), (2, .ref (md 0)), (3, .ref oa)]) hx hb dL_law_964 hl (k := 6) rfl rfl (by decide) rfl (fun ls hl => ?_)
            refine lv_goto (tgt := 23) hx hb dL_law_967 (by decide) ?_
            refine W.widen (k := 660388 - 4 * n23) (n := 7114941 - 24 * n23) (by omega) (by omega) ?_
            exact ih23 (v4_23 + 3) size_23 rc_23 g_23 fs_23 st_23 ln_23 x365.2.1 rr_23 cr_23 bc_23 bl_23 td_23 fi_23 fa_23 tk_23 gr_23 se_23 sr_23 x383.2.1 msz_23 mrn_23 mmy_23 mdf_23 mgu_23 mhs_23 mlv_23 mba_23 mgi_23 mfi_23 mle_23 mst_23 x383.2.2 mtr_23 mdi_23 mfa_23 mca_23 x365.2.2 (by omega) hf _ _ _ hP hD hS (lv_sub hl [3, 4, 5, 6, 0] rfl)
          · have hf := ite_t c_401 hf
            refine lv_aload_n hx hb dL_law_404 rfl (lv_at hl 5 rfl) ?_
            refine lv_iconst (v := 0) hx hb dL_law_405 (by decide) ?_
            refine va_lald hx hb hKJ hP 28 0 rfl rfl (show inR 0 1 from by decide) dL_law_406 ?_
            refine lv_iload hx hb dL_law_407 (lv_at hl 0 rfl) ?_
            refine lv_i2l (v := (x383.1 : Int32).toInt64) hx hb dL_law_409 rfl ?_
            refine W.lcmp hx hb dL_law_410 ?_
            refine lv_if_eq (tgt := 416) hx hb dL_law_411 (by decide) (fun c_411 => ?_) (fun c_411 => ?_)
            · have hf := ite_t c_411 hf
              refine lv_goto (tgt := 964) hx hb dL_law_416 (by decide) ?_
              refine lv_iinc (v := (v4_23 + 3)) (lv' := [(4, .int (v4_23 + 3)), (6, .int x383.1), (5, .int x365.1), (0, .ref b), (1, .ref (ad 16)), (2, .ref (md 0)), (3, .ref oa)]) hx hb dL_law_964 hl (k := 6) rfl rfl (by decide) rfl (fun ls hl => ?_)
              refine lv_goto (tgt := 23) hx hb dL_law_967 (by decide) ?_
              refine W.widen (k := 660388 - 4 * n23) (n := 7114941 - 24 * n23) (by omega) (by omega) ?_
              exact ih23 (v4_23 + 3) size_23 rc_23 g_23 fs_23 st_23 ln_23 x365.2.1 rr_23 cr_23 bc_23 bl_23 td_23 fi_23 fa_23 tk_23 gr_23 se_23 sr_23 x383.2.1 msz_23 mrn_23 mmy_23 mdf_23 mgu_23 mhs_23 mlv_23 mba_23 mgi_23 mfi_23 mle_23 mst_23 x383.2.2 mtr_23 mdi_23 mfa_23 mca_23 x365.2.2 (by omega) hf _ _ _ hP hD hS (lv_sub hl [3, 4, 5, 6, 0] rfl)
            · have hf := ite_f c_411 hf
              refine lv_iconst (v := 0) hx hb dL_law_414 (by decide) ?_
              exact absurd (Option.some.inj hf) (by decide)
        · have hf := ite_f c_394 hf
          refine lv_iconst (v := 0) hx hb dL_law_397 (by decide) ?_
          exact absurd (Option.some.inj hf) (by decide)
      have hf := ite_f c_4 hf
      rcases Decidable.em (((xs ((v4_23 : Int32)).toNatClampNeg) &&& 31) = 5) with c_5 | c_5
      · have hf := ite_t c_5 hf
        refine lv_tableIn (off := 380) (tgt := 419) hx hb dL_law_39 (by rw [c_5]; decide) (by rw [c_5]; decide) (by rw [c_5]; rfl) (by decide) ?_
        refine lv_aload_n hx hb dL_law_419 rfl (lv_at hl 1 rfl) ?_
        refine lv_aload_n hx hb dL_law_420 rfl (lv_at hl 3 rfl) ?_
        obtain ⟨x421, hy421, hf⟩ := Option.bind_eq_some_iff.mp hf
        refine clSW_i (As := [.ref (ad 16), .ref oa]) (rest := []) (wLL cI cZ cJ ad md oa size_23 rc_23 x421.2.1 fs_23 st_23 ln_23 x421.2.2.1 rr_23 cr_23 bc_23 bl_23 td_23 fi_23 fa_23 tk_23 gr_23 se_23 sr_23 mth_23 msz_23 mrn_23 mmy_23 mdf_23 mgu_23 mhs_23 mlv_23 mba_23 mgi_23 mfi_23 mle_23 mst_23 msu_23 mtr_23 mdi_23 mfa_23 mca_23 x421.2.2.2) ⟨hx, hb, hml, hown, hts⟩ (K_L_press l hst D cI cZ cJ ad oa H.size N size_23 rc_23 g_23 fs_23 st_23 ln_23 su_23 rr_23 cr_23 bc_23 bl_23 td_23 fi_23 fa_23 tk_23 gr_23 se_23 sr_23 ou_23 _ hy421) (vx_cwSW 2 hts gL_law_L_press rfl rfl rfl (by decide +kernel) ⟨Nat.le_of_ble_eq_true rfl, Nat.le_of_ble_eq_true rfl⟩) hK hXS hKJ hNC hP hD hS hA hl.1 [0, 1, 2, 3, 4, 5, 6, 7, 8, 9, 10, 11, 12, 13, 14, 15, 16, 28] (by decide) rfl rfl rfl rfl rfl (Nat.le_of_ble_eq_true rfl) dL_law_421 ⟨by show _ ≤ 660388; omega, by show _ ≤ 7114941; omega⟩ (fun H locs hP hD hS => ?_)
        refine lv_istore (lv' := [(5, .int x421.1), (0, .ref b), (1, .ref (ad 16)), (2, .ref (md 0)), (3, .ref oa), (4, .int v4_23)]) hx hb dL_law_424 hl (by decide) rfl (fun ls hl => ?_)
        refine lv_aload_n hx hb dL_law_426 rfl (lv_at hl 3 rfl) ?_
        obtain ⟨x427, hy427, hf⟩ := Option.bind_eq_some_iff.mp hf
        refine clV_i (As := []) (rest := []) (wLL cI cZ cJ ad md oa size_23 rc_23 x421.2.1 fs_23 st_23 ln_23 x421.2.2.1 rr_23 cr_23 bc_23 bl_23 td_23 fi_23 fa_23 tk_23 gr_23 se_23 sr_23 x427.2.1 msz_23 mrn_23 mmy_23 mdf_23 mgu_23 mhs_23 mlv_23 mba_23 x427.2.2.1 mfi_23 mle_23 mst_23 x427.2.2.2.1 mtr_23 x427.2.2.2.2 mfa_23 mca_23 x421.2.2.2) ⟨hx, hb, hml, hown, hts⟩ (K_X4_press l D cI cZ md H.size N mth_23 msz_23 mrn_23 mmy_23 mdf_23 mgu_23 mhs_23 mlv_23 mba_23 mgi_23 mfi_23 mle_23 mst_23 msu_23 mtr_23 mdi_23 mfa_23 mca_23 _ hy427) (cwV 0 hts gL_law_X4_press rfl rfl rfl (by decide +kernel) ⟨Nat.le_of_ble_eq_true rfl, Nat.le_of_ble_eq_true rfl⟩) hK hP hD hS hA hl.1 [17, 18, 19, 20, 21, 22, 23, 24, 25, 26, 27] (by decide) rfl rfl rfl 4 17 rfl rfl rfl rfl rfl (Nat.le_of_ble_eq_true rfl) dL_law_427 ⟨by show _ ≤ 660388; omega, by show _ ≤ 7114941; omega⟩ (fun H locs hP hD hS => ?_)
        refine lv_istore (lv' := [(6, .int x427.1), (5, .int x421.1), (0, .ref b), (1, .ref (ad 16)), (2, .ref (md 0)), (3, .ref oa), (4, .int v4_23)]) hx hb dL_law_430 hl (by decide) rfl (fun ls hl => ?_)
        refine lv_aload_n hx hb dL_law_432 rfl (lv_at hl 4 rfl) ?_
        refine clV_i (As := []) (rest := []) (wLL cI cZ cJ ad md oa size_23 rc_23 x421.2.1 fs_23 st_23 ln_23 x421.2.2.1 rr_23 cr_23 bc_23 bl_23 td_23 fi_23 fa_23 tk_23 gr_23 se_23 sr_23 x427.2.1 msz_23 mrn_23 mmy_23 mdf_23 mgu_23 mhs_23 mlv_23 mba_23 x427.2.2.1 mfi_23 mle_23 mst_23 x427.2.2.2.1 mtr_23 x427.2.2.2.2 mfa_23 mca_23 x421.2.2.2) ⟨hx, hb, hml, hown, hts⟩ (K_X4_thrown l D cI cZ md H.size x427.2.1 msz_23 mrn_23 mmy_23 mdf_23 mgu_23 mhs_23 mlv_23 mba_23 x427.2.2.1 mfi_23 mle_23 mst_23 x427.2.2.2.1 mtr_23 x427.2.2.2.2 mfa_23 mca_23 _ rfl) (cwV 0 hts gL_law_X4_thrown rfl rfl rfl (by decide +kernel) ⟨Nat.le_of_ble_eq_true rfl, Nat.le_of_ble_eq_true rfl⟩) hK hP hD hS hA hl.1 [17, 18, 19, 20, 21, 22, 23, 24, 25, 26, 27] (by decide) rfl rfl rfl 4 17 rfl rfl rfl rfl rfl (Nat.le_of_ble_eq_true rfl) dL_law_433 ⟨by show _ ≤ 660388; omega, by show _ ≤ 7114941; omega⟩ (fun H locs hP hD hS => ?_)
        refine lv_iload hx hb dL_law_436 (lv_at hl 1 rfl) ?_
        refine lv_icmp_eq (tgt := 443) hx hb dL_law_438 (by decide) (fun c_438 => ?_) (fun c_438 => ?_)
        · have hf := ite_t c_438 hf
          refine lv_iload hx hb dL_law_443 (lv_at hl 1 rfl) ?_
          refine lv_if_ne (tgt := 460) hx hb dL_law_445 (by decide) (fun c_445 => ?_) (fun c_445 => ?_)
          · have hf := ite_f c_445 hf
            refine lv_goto (tgt := 964) hx hb dL_law_460 (by decide) ?_
            refine lv_iinc (v := (v4_23 + 3)) (lv' := [(4, .int (v4_23 + 3)), (6, .int x427.1), (5, .int x421.1), (0, .ref b), (1, .ref (ad 16)), (2, .ref (md 0)), (3, .ref oa)]) hx hb dL_law_964 hl (k := 6) rfl rfl (by decide) rfl (fun ls hl => ?_)
            refine lv_goto (tgt := 23) hx hb dL_law_967 (by decide) ?_
            refine W.widen (k := 660388 - 4 * n23) (n := 7114941 - 24 * n23) (by omega) (by omega) ?_
            exact ih23 (v4_23 + 3) size_23 rc_23 x421.2.1 fs_23 st_23 ln_23 x421.2.2.1 rr_23 cr_23 bc_23 bl_23 td_23 fi_23 fa_23 tk_23 gr_23 se_23 sr_23 x427.2.1 msz_23 mrn_23 mmy_23 mdf_23 mgu_23 mhs_23 mlv_23 mba_23 x427.2.2.1 mfi_23 mle_23 mst_23 x427.2.2.2.1 mtr_23 x427.2.2.2.2 mfa_23 mca_23 x421.2.2.2 (by omega) hf _ _ _ hP hD hS (lv_sub hl [3, 4, 5, 6, 0] rfl)
          · have hf := ite_t c_445 hf
            refine lv_aload_n hx hb dL_law_448 rfl (lv_at hl 5 rfl) ?_
            refine lv_iconst (v := 0) hx hb dL_law_449 (by decide) ?_
            refine va_lald hx hb hKJ hP 28 0 rfl rfl (show inR 0 1 from by decide) dL_law_450 ?_
            refine lv_iload hx hb dL_law_451 (lv_at hl 0 rfl) ?_
            refine lv_i2l (v := (x427.1 : Int32).toInt64) hx hb dL_law_453 rfl ?_
            refine W.lcmp hx hb dL_law_454 ?_
            refine lv_if_eq (tgt := 460) hx hb dL_law_455 (by decide) (fun c_455 => ?_) (fun c_455 => ?_)
            · have hf := ite_t c_455 hf
              refine lv_goto (tgt := 964) hx hb dL_law_460 (by decide) ?_
              refine lv_iinc (v := (v4_23 + 3)) (lv' := [(4, .int (v4_23 + 3)), (6, .int x427.1), (5, .int x421.1), (0, .ref b), (1, .ref (ad 16)), (2, .ref (md 0)), (3, .ref oa)]) hx hb dL_law_964 hl (k := 6) rfl rfl (by decide) rfl (fun ls hl => ?_)
              refine lv_goto (tgt := 23) hx hb dL_law_967 (by decide) ?_
              refine W.widen (k := 660388 - 4 * n23) (n := 7114941 - 24 * n23) (by omega) (by omega) ?_
              exact ih23 (v4_23 + 3) size_23 rc_23 x421.2.1 fs_23 st_23 ln_23 x421.2.2.1 rr_23 cr_23 bc_23 bl_23 td_23 fi_23 fa_23 tk_23 gr_23 se_23 sr_23 x427.2.1 msz_23 mrn_23 mmy_23 mdf_23 mgu_23 mhs_23 mlv_23 mba_23 x427.2.2.1 mfi_23 mle_23 mst_23 x427.2.2.2.1 mtr_23 x427.2.2.2.2 mfa_23 mca_23 x421.2.2.2 (by omega) hf _ _ _ hP hD hS (lv_sub hl [3, 4, 5, 6, 0] rfl)
            · have hf := ite_f c_455 hf
              refine lv_iconst (v := 0) hx hb dL_law_458 (by decide) ?_
              exact absurd (Option.some.inj hf) (by decide)
        · have hf := ite_f c_438 hf
          refine lv_iconst (v := 0) hx hb dL_law_441 (by decide) ?_
          exact absurd (Option.some.inj hf) (by decide)
      have hf := ite_f c_5 hf
      rcases Decidable.em (((xs ((v4_23 : Int32)).toNatClampNeg) &&& 31) = 6) with c_6 | c_6
      · have hf := ite_t c_6 hf
        refine lv_tableIn (off := 424) (tgt := 463) hx hb dL_law_39 (by rw [c_6]; decide) (by rw [c_6]; decide) (by rw [c_6]; rfl) (by decide) ?_
        refine lv_aload_n hx hb dL_law_463 rfl (lv_at hl 1 rfl) ?_
        obtain ⟨x464, hy464, hf⟩ := Option.bind_eq_some_iff.mp hf
        refine clV_i (As := []) (rest := []) (wLL cI cZ cJ ad md oa size_23 rc_23 g_23 fs_23 st_23 ln_23 su_23 rr_23 cr_23 bc_23 bl_23 td_23 fi_23 fa_23 tk_23 gr_23 se_23 sr_23 mth_23 msz_23 mrn_23 mmy_23 mdf_23 mgu_23 mhs_23 mlv_23 mba_23 mgi_23 mfi_23 mle_23 mst_23 msu_23 mtr_23 mdi_23 mfa_23 mca_23 ou_23) ⟨hx, hb, hml, hown, hts⟩ (K_X3_open l D cI cZ ad H.size N size_23 rc_23 g_23 fs_23 st_23 ln_23 su_23 rr_23 cr_23 bc_23 bl_23 td_23 fi_23 fa_23 tk_23 gr_23 se_23 sr_23 _ hy464) (cwV 0 hts gL_law_X3_open rfl rfl rfl (by decide +kernel) ⟨Nat.le_of_ble_eq_true rfl, Nat.le_of_ble_eq_true rfl⟩) hK hP hD hS hA hl.1 [0, 1, 2, 3, 4, 5, 6, 7, 8, 9, 10, 11, 12, 13, 14, 15, 16] (by decide) rfl rfl rfl 3 16 rfl rfl rfl rfl rfl (Nat.le_of_ble_eq_true rfl) dL_law_464 ⟨by show _ ≤ 660388; omega, by show _ ≤ 7114941; omega⟩ (fun H locs hP hD hS => ?_)
        refine lv_aload_n hx hb dL_law_467 rfl (lv_at hl 2 rfl) ?_
        obtain ⟨x468, hy468, hf⟩ := Option.bind_eq_some_iff.mp hf
        refine clV_i (As := []) (rest := [.int x464]) (wLL cI cZ cJ ad md oa size_23 rc_23 g_23 fs_23 st_23 ln_23 su_23 rr_23 cr_23 bc_23 bl_23 td_23 fi_23 fa_23 tk_23 gr_23 se_23 sr_23 x468.2 msz_23 mrn_23 mmy_23 mdf_23 mgu_23 mhs_23 mlv_23 mba_23 mgi_23 mfi_23 mle_23 mst_23 msu_23 mtr_23 mdi_23 mfa_23 mca_23 ou_23) ⟨hx, hb, hml, hown, hts⟩ (K_X4_open l D cI cZ md H.size N mth_23 msz_23 mrn_23 mmy_23 mdf_23 mgu_23 mhs_23 mlv_23 mba_23 mgi_23 mfi_23 mle_23 mst_23 msu_23 mtr_23 mdi_23 mfa_23 mca_23 _ hy468) (cwV 0 hts gL_law_X4_open rfl rfl rfl (by decide +kernel) ⟨Nat.le_of_ble_eq_true rfl, Nat.le_of_ble_eq_true rfl⟩) hK hP hD hS hA hl.1 [17, 18, 19, 20, 21, 22, 23, 24, 25, 26, 27] (by decide) rfl rfl rfl 4 17 rfl rfl rfl rfl rfl (Nat.le_of_ble_eq_true rfl) dL_law_468 ⟨by show _ ≤ 660388; omega, by show _ ≤ 7114941; omega⟩ (fun H locs hP hD hS => ?_)
        refine lv_icmp_eq (tgt := 964) hx hb dL_law_471 (by decide) (fun c_471 => ?_) (fun c_471 => ?_)
        · have hf := ite_t c_471 hf
          refine lv_iinc (v := (v4_23 + 3)) (lv' := [(4, .int (v4_23 + 3)), (0, .ref b), (1, .ref (ad 16)), (2, .ref (md 0)), (3, .ref oa)]) hx hb dL_law_964 hl (k := 4) rfl rfl (by decide) rfl (fun ls hl => ?_)
          refine lv_goto (tgt := 23) hx hb dL_law_967 (by decide) ?_
          refine W.widen (k := 660388 - 4 * n23) (n := 7114941 - 24 * n23) (by omega) (by omega) ?_
          exact ih23 (v4_23 + 3) size_23 rc_23 g_23 fs_23 st_23 ln_23 su_23 rr_23 cr_23 bc_23 bl_23 td_23 fi_23 fa_23 tk_23 gr_23 se_23 sr_23 x468.2 msz_23 mrn_23 mmy_23 mdf_23 mgu_23 mhs_23 mlv_23 mba_23 mgi_23 mfi_23 mle_23 mst_23 msu_23 mtr_23 mdi_23 mfa_23 mca_23 ou_23 (by omega) hf _ _ _ hP hD hS (lv_sub hl [1, 2, 3, 4, 0] rfl)
        · have hf := ite_f c_471 hf
          refine lv_iconst (v := 0) hx hb dL_law_474 (by decide) ?_
          exact absurd (Option.some.inj hf) (by decide)
      have hf := ite_f c_6 hf
      rcases Decidable.em (((xs ((v4_23 : Int32)).toNatClampNeg) &&& 31) = 7) with c_7 | c_7
      · have hf := ite_t c_7 hf
        refine lv_tableIn (off := 437) (tgt := 476) hx hb dL_law_39 (by rw [c_7]; decide) (by rw [c_7]; decide) (by rw [c_7]; rfl) (by decide) ?_
        refine lv_aload_n hx hb dL_law_476 rfl (lv_at hl 1 rfl) ?_
        refine clV_i (As := []) (rest := []) (wLL cI cZ cJ ad md oa size_23 rc_23 g_23 fs_23 st_23 ln_23 su_23 rr_23 cr_23 bc_23 bl_23 td_23 fi_23 fa_23 tk_23 gr_23 se_23 sr_23 mth_23 msz_23 mrn_23 mmy_23 mdf_23 mgu_23 mhs_23 mlv_23 mba_23 mgi_23 mfi_23 mle_23 mst_23 msu_23 mtr_23 mdi_23 mfa_23 mca_23 ou_23) ⟨hx, hb, hml, hown, hts⟩ (K_X3_runs l D cI cZ ad H.size size_23 rc_23 g_23 fs_23 st_23 ln_23 su_23 rr_23 cr_23 bc_23 bl_23 td_23 fi_23 fa_23 tk_23 gr_23 se_23 sr_23 _ rfl) (cwV 0 hts gL_law_X3_runs rfl rfl rfl (by decide +kernel) ⟨Nat.le_of_ble_eq_true rfl, Nat.le_of_ble_eq_true rfl⟩) hK hP hD hS hA hl.1 [0, 1, 2, 3, 4, 5, 6, 7, 8, 9, 10, 11, 12, 13, 14, 15, 16] (by decide) rfl rfl rfl 3 16 rfl rfl rfl rfl rfl (Nat.le_of_ble_eq_true rfl) dL_law_477 ⟨by show _ ≤ 660388; omega, by show _ ≤ 7114941; omega⟩ (fun H locs hP hD hS => ?_)
        refine lv_aload_n hx hb dL_law_480 rfl (lv_at hl 2 rfl) ?_
        obtain ⟨x481, hy481, hf⟩ := jn_some hf
        refine clV_i (As := []) (rest := [.int (f_X3_runs rc_23)]) (wLL cI cZ cJ ad md oa size_23 rc_23 g_23 fs_23 st_23 ln_23 su_23 rr_23 cr_23 bc_23 bl_23 td_23 fi_23 fa_23 tk_23 gr_23 se_23 sr_23 x481.2 msz_23 mrn_23 mmy_23 mdf_23 mgu_23 mhs_23 mlv_23 mba_23 mgi_23 mfi_23 mle_23 mst_23 msu_23 mtr_23 mdi_23 mfa_23 mca_23 ou_23) ⟨hx, hb, hml, hown, hts⟩ (K_X4_runs l D cI cZ md H.size mth_23 msz_23 mrn_23 mmy_23 mdf_23 mgu_23 mhs_23 mlv_23 mba_23 mgi_23 mfi_23 mle_23 mst_23 msu_23 mtr_23 mdi_23 mfa_23 mca_23 _ hy481.symm) (cwV 0 hts gL_law_X4_runs rfl rfl rfl (by decide +kernel) ⟨Nat.le_of_ble_eq_true rfl, Nat.le_of_ble_eq_true rfl⟩) hK hP hD hS hA hl.1 [17, 18, 19, 20, 21, 22, 23, 24, 25, 26, 27] (by decide) rfl rfl rfl 4 17 rfl rfl rfl rfl rfl (Nat.le_of_ble_eq_true rfl) dL_law_481 ⟨by show _ ≤ 660388; omega, by show _ ≤ 7114941; omega⟩ (fun H locs hP hD hS => ?_)
        refine lv_icmp_eq (tgt := 964) hx hb dL_law_484 (by decide) (fun c_484 => ?_) (fun c_484 => ?_)
        · have hf := ite_t c_484 hf
          refine lv_iinc (v := (v4_23 + 3)) (lv' := [(4, .int (v4_23 + 3)), (0, .ref b), (1, .ref (ad 16)), (2, .ref (md 0)), (3, .ref oa)]) hx hb dL_law_964 hl (k := 4) rfl rfl (by decide) rfl (fun ls hl => ?_)
          refine lv_goto (tgt := 23) hx hb dL_law_967 (by decide) ?_
          refine W.widen (k := 660388 - 4 * n23) (n := 7114941 - 24 * n23) (by omega) (by omega) ?_
          exact ih23 (v4_23 + 3) size_23 rc_23 g_23 fs_23 st_23 ln_23 su_23 rr_23 cr_23 bc_23 bl_23 td_23 fi_23 fa_23 tk_23 gr_23 se_23 sr_23 x481.2 msz_23 mrn_23 mmy_23 mdf_23 mgu_23 mhs_23 mlv_23 mba_23 mgi_23 mfi_23 mle_23 mst_23 msu_23 mtr_23 mdi_23 mfa_23 mca_23 ou_23 (by omega) hf _ _ _ hP hD hS (lv_sub hl [1, 2, 3, 4, 0] rfl)
        · have hf := ite_f c_484 hf
          refine lv_iconst (v := 0) hx hb dL_law_487 (by decide) ?_
          exact absurd (Option.some.inj hf) (by decide)
      have hf := ite_f c_7 hf
      rcases Decidable.em (((xs ((v4_23 : Int32)).toNatClampNeg) &&& 31) = 8) with c_8 | c_8
      · have hf := ite_t c_8 hf
        refine lv_tableIn (off := 450) (tgt := 489) hx hb dL_law_39 (by rw [c_8]; decide) (by rw [c_8]; decide) (by rw [c_8]; rfl) (by decide) ?_
        refine lv_aload_n hx hb dL_law_489 rfl (lv_at hl 1 rfl) ?_
        refine lv_aload_n hx hb dL_law_490 rfl (lv_at hl 0 rfl) ?_
        refine lv_iload hx hb dL_law_491 (lv_at hl 4 rfl) ?_
        refine lv_iconst (v := 1) hx hb dL_law_493 (by decide) ?_
        refine lv_iadd hx hb dL_law_494 ?_
        obtain ⟨hz495, hf⟩ := gd_some hf
        refine va_sld hx hb hXs hbl hbA hS hz495 dL_law_495 ?_
        refine lv_aload_n hx hb dL_law_496 rfl (lv_at hl 3 rfl) ?_
        obtain ⟨x497, hy497, hf⟩ := Option.bind_eq_some_iff.mp hf
        refine clSW_i (As := [.ref (ad 16), .int (xs (((v4_23 + 1) : Int32)).toNatClampNeg), .ref oa]) (rest := []) (wLL cI cZ cJ ad md oa size_23 rc_23 g_23 fs_23 st_23 ln_23 su_23 rr_23 cr_23 bc_23 bl_23 td_23 fi_23 fa_23 tk_23 gr_23 se_23 sr_23 mth_23 msz_23 mrn_23 mmy_23 mdf_23 mgu_23 mhs_23 mlv_23 mba_23 mgi_23 mfi_23 mle_23 mst_23 msu_23 mtr_23 mdi_23 mfa_23 mca_23 x497.2) ⟨hx, hb, hml, hown, hts⟩ (K_L_firstOf l hst D cI cZ cJ ad oa H.size size_23 rc_23 g_23 fs_23 st_23 ln_23 su_23 rr_23 cr_23 bc_23 bl_23 td_23 fi_23 fa_23 tk_23 gr_23 se_23 sr_23 ou_23 (xs (((v4_23 + 1) : Int32)).toNatClampNeg) _ hy497) (vx_cwSW 3 hts gL_law_L_firstOf rfl rfl rfl (by decide +kernel) ⟨Nat.le_of_ble_eq_true rfl, Nat.le_of_ble_eq_true rfl⟩) hK hXS hKJ hNC hP hD hS hA hl.1 [0, 1, 2, 3, 4, 5, 6, 7, 8, 9, 10, 11, 12, 13, 14, 15, 16, 28] (by decide) rfl rfl rfl rfl rfl (Nat.le_of_ble_eq_true rfl) dL_law_497 ⟨by show _ ≤ 660388; omega, by show _ ≤ 7114941; omega⟩ (fun H locs hP hD hS => ?_)
        refine lv_istore (lv' := [(5, .int x497.1), (0, .ref b), (1, .ref (ad 16)), (2, .ref (md 0)), (3, .ref oa), (4, .int v4_23)]) hx hb dL_law_500 hl (by decide) rfl (fun ls hl => ?_)
        refine lv_aload_n hx hb dL_law_502 rfl (lv_at hl 3 rfl) ?_
        refine lv_aload_n hx hb dL_law_503 rfl (lv_at hl 1 rfl) ?_
        refine lv_iload hx hb dL_law_504 (lv_at hl 5 rfl) ?_
        refine lv_iconst (v := 1) hx hb dL_law_506 (by decide) ?_
        refine lv_iadd hx hb dL_law_507 ?_
        obtain ⟨hz508, hf⟩ := gd_some hf
        refine va_sld hx hb hXs hbl hbA hS hz508 dL_law_508 ?_
        obtain ⟨x509, hy509, hf⟩ := Option.bind_eq_some_iff.mp hf
        refine clV_i (As := [.int (xs (((v4_23 + 1) : Int32)).toNatClampNeg)]) (rest := []) (wLL cI cZ cJ ad md oa size_23 rc_23 g_23 fs_23 st_23 ln_23 su_23 rr_23 cr_23 bc_23 bl_23 td_23 fi_23 fa_23 tk_23 gr_23 se_23 sr_23 x509.2 msz_23 mrn_23 mmy_23 mdf_23 mgu_23 mhs_23 mlv_23 mba_23 mgi_23 mfi_23 mle_23 mst_23 msu_23 mtr_23 mdi_23 mfa_23 mca_23 x497.2) ⟨hx, hb, hml, hown, hts⟩ (K_X4_firstOf l D cI cZ md H.size mth_23 msz_23 mrn_23 mmy_23 mdf_23 mgu_23 mhs_23 mlv_23 mba_23 mgi_23 mfi_23 mle_23 mst_23 msu_23 mtr_23 mdi_23 mfa_23 mca_23 (xs (((v4_23 + 1) : Int32)).toNatClampNeg) _ hy509) (cwV 1 hts gL_law_X4_firstOf rfl rfl rfl (by decide +kernel) ⟨Nat.le_of_ble_eq_true rfl, Nat.le_of_ble_eq_true rfl⟩) hK hP hD hS hA hl.1 [17, 18, 19, 20, 21, 22, 23, 24, 25, 26, 27] (by decide) rfl rfl rfl 4 17 rfl rfl rfl rfl rfl (Nat.le_of_ble_eq_true rfl) dL_law_509 ⟨by show _ ≤ 660388; omega, by show _ ≤ 7114941; omega⟩ (fun H locs hP hD hS => ?_)
        refine lv_istore (lv' := [(6, .int x509.1), (5, .int x497.1), (0, .ref b), (1, .ref (ad 16)), (2, .ref (md 0)), (3, .ref oa), (4, .int v4_23)]) hx hb dL_law_512 hl (by decide) rfl (fun ls hl => ?_)
        refine lv_aload_n hx hb dL_law_514 rfl (lv_at hl 4 rfl) ?_
        refine clV_i (As := []) (rest := []) (wLL cI cZ cJ ad md oa size_23 rc_23 g_23 fs_23 st_23 ln_23 su_23 rr_23 cr_23 bc_23 bl_23 td_23 fi_23 fa_23 tk_23 gr_23 se_23 sr_23 x509.2 msz_23 mrn_23 mmy_23 mdf_23 mgu_23 mhs_23 mlv_23 mba_23 mgi_23 mfi_23 mle_23 mst_23 msu_23 mtr_23 mdi_23 mfa_23 mca_23 x497.2) ⟨hx, hb, hml, hown, hts⟩ (K_X4_thrown l D cI cZ md H.size x509.2 msz_23 mrn_23 mmy_23 mdf_23 mgu_23 mhs_23 mlv_23 mba_23 mgi_23 mfi_23 mle_23 mst_23 msu_23 mtr_23 mdi_23 mfa_23 mca_23 _ rfl) (cwV 0 hts gL_law_X4_thrown rfl rfl rfl (by decide +kernel) ⟨Nat.le_of_ble_eq_true rfl, Nat.le_of_ble_eq_true rfl⟩) hK hP hD hS hA hl.1 [17, 18, 19, 20, 21, 22, 23, 24, 25, 26, 27] (by decide) rfl rfl rfl 4 17 rfl rfl rfl rfl rfl (Nat.le_of_ble_eq_true rfl) dL_law_515 ⟨by show _ ≤ 660388; omega, by show _ ≤ 7114941; omega⟩ (fun H locs hP hD hS => ?_)
        refine lv_iload hx hb dL_law_518 (lv_at hl 1 rfl) ?_
        refine lv_icmp_eq (tgt := 525) hx hb dL_law_520 (by decide) (fun c_520 => ?_) (fun c_520 => ?_)
        · have hf := ite_t c_520 hf
          refine lv_iload hx hb dL_law_525 (lv_at hl 1 rfl) ?_
          refine lv_if_ne (tgt := 542) hx hb dL_law_527 (by decide) (fun c_527 => ?_) (fun c_527 => ?_)
          · have hf := ite_f c_527 hf
            refine lv_goto (tgt := 964) hx hb dL_law_542 (by decide) ?_
            refine lv_iinc (v := (v4_23 + 3)) (lv' := [(4, .int (v4_23 + 3)), (6, .int x509.1), (5, .int x497.1), (0, .ref b), (1, .ref (ad 16)), (2, .ref (md 0)), (3, .ref oa)]) hx hb dL_law_964 hl (k := 6) rfl rfl (by decide) rfl (fun ls hl => ?_)
            refine lv_goto (tgt := 23) hx hb dL_law_967 (by decide) ?_
            refine W.widen (k := 660388 - 4 * n23) (n := 7114941 - 24 * n23) (by omega) (by omega) ?_
            exact ih23 (v4_23 + 3) size_23 rc_23 g_23 fs_23 st_23 ln_23 su_23 rr_23 cr_23 bc_23 bl_23 td_23 fi_23 fa_23 tk_23 gr_23 se_23 sr_23 x509.2 msz_23 mrn_23 mmy_23 mdf_23 mgu_23 mhs_23 mlv_23 mba_23 mgi_23 mfi_23 mle_23 mst_23 msu_23 mtr_23 mdi_23 mfa_23 mca_23 x497.2 (by omega) hf _ _ _ hP hD hS (lv_sub hl [3, 4, 5, 6, 0] rfl)
          · have hf := ite_t c_527 hf
            refine lv_aload_n hx hb dL_law_530 rfl (lv_at hl 5 rfl) ?_
            refine lv_iconst (v := 0) hx hb dL_law_531 (by decide) ?_
            refine va_lald hx hb hKJ hP 28 0 rfl rfl (show inR 0 1 from by decide) dL_law_532 ?_
            refine lv_iload hx hb dL_law_533 (lv_at hl 0 rfl) ?_
            refine lv_i2l (v := (x509.1 : Int32).toInt64) hx hb dL_law_535 rfl ?_
            refine W.lcmp hx hb dL_law_536 ?_
            refine lv_if_eq (tgt := 542) hx hb dL_law_537 (by decide) (fun c_537 => ?_) (fun c_537 => ?_)
            · have hf := ite_t c_537 hf
              refine lv_goto (tgt := 964) hx hb dL_law_542 (by decide) ?_
              refine lv_iinc (v := (v4_23 + 3)) (lv' := [(4, .int (v4_23 + 3)), (6, .int x509.1), (5, .int x497.1), (0, .ref b), (1, .ref (ad 16)), (2, .ref (md 0)), (3, .ref oa)]) hx hb dL_law_964 hl (k := 6) rfl rfl (by decide) rfl (fun ls hl => ?_)
              refine lv_goto (tgt := 23) hx hb dL_law_967 (by decide) ?_
              refine W.widen (k := 660388 - 4 * n23) (n := 7114941 - 24 * n23) (by omega) (by omega) ?_
              exact ih23 (v4_23 + 3) size_23 rc_23 g_23 fs_23 st_23 ln_23 su_23 rr_23 cr_23 bc_23 bl_23 td_23 fi_23 fa_23 tk_23 gr_23 se_23 sr_23 x509.2 msz_23 mrn_23 mmy_23 mdf_23 mgu_23 mhs_23 mlv_23 mba_23 mgi_23 mfi_23 mle_23 mst_23 msu_23 mtr_23 mdi_23 mfa_23 mca_23 x497.2 (by omega) hf _ _ _ hP hD hS (lv_sub hl [3, 4, 5, 6, 0] rfl)
            · have hf := ite_f c_537 hf
              refine lv_iconst (v := 0) hx hb dL_law_540 (by decide) ?_
              exact absurd (Option.some.inj hf) (by decide)
        · have hf := ite_f c_520 hf
          refine lv_iconst (v := 0) hx hb dL_law_523 (by decide) ?_
          exact absurd (Option.some.inj hf) (by decide)
      have hf := ite_f c_8 hf
      rcases Decidable.em (((xs ((v4_23 : Int32)).toNatClampNeg) &&& 31) = 9) with c_9 | c_9
      · have hf := ite_t c_9 hf
        refine lv_tableIn (off := 506) (tgt := 545) hx hb dL_law_39 (by rw [c_9]; decide) (by rw [c_9]; decide) (by rw [c_9]; rfl) (by decide) ?_
        refine lv_aload_n hx hb dL_law_545 rfl (lv_at hl 1 rfl) ?_
        refine lv_aload_n hx hb dL_law_546 rfl (lv_at hl 0 rfl) ?_
        refine lv_iload hx hb dL_law_547 (lv_at hl 4 rfl) ?_
        refine lv_iconst (v := 1) hx hb dL_law_549 (by decide) ?_
        refine lv_iadd hx hb dL_law_550 ?_
        obtain ⟨hz551, hf⟩ := gd_some hf
        refine va_sld hx hb hXs hbl hbA hS hz551 dL_law_551 ?_
        refine lv_aload_n hx hb dL_law_552 rfl (lv_at hl 3 rfl) ?_
        obtain ⟨x553, hy553, hf⟩ := Option.bind_eq_some_iff.mp hf
        refine clSW_i (As := [.ref (ad 16), .int (xs (((v4_23 + 1) : Int32)).toNatClampNeg), .ref oa]) (rest := []) (wLL cI cZ cJ ad md oa size_23 rc_23 g_23 fs_23 st_23 ln_23 su_23 rr_23 cr_23 bc_23 bl_23 td_23 fi_23 fa_23 tk_23 gr_23 se_23 sr_23 mth_23 msz_23 mrn_23 mmy_23 mdf_23 mgu_23 mhs_23 mlv_23 mba_23 mgi_23 mfi_23 mle_23 mst_23 msu_23 mtr_23 mdi_23 mfa_23 mca_23 x553.2) ⟨hx, hb, hml, hown, hts⟩ (K_L_lengthOf l hst D cI cZ cJ ad oa H.size size_23 rc_23 g_23 fs_23 st_23 ln_23 su_23 rr_23 cr_23 bc_23 bl_23 td_23 fi_23 fa_23 tk_23 gr_23 se_23 sr_23 ou_23 (xs (((v4_23 + 1) : Int32)).toNatClampNeg) _ hy553) (vx_cwSW 3 hts gL_law_L_lengthOf rfl rfl rfl (by decide +kernel) ⟨Nat.le_of_ble_eq_true rfl, Nat.le_of_ble_eq_true rfl⟩) hK hXS hKJ hNC hP hD hS hA hl.1 [0, 1, 2, 3, 4, 5, 6, 7, 8, 9, 10, 11, 12, 13, 14, 15, 16, 28] (by decide) rfl rfl rfl rfl rfl (Nat.le_of_ble_eq_true rfl) dL_law_553 ⟨by show _ ≤ 660388; omega, by show _ ≤ 7114941; omega⟩ (fun H locs hP hD hS => ?_)
        refine lv_istore (lv' := [(5, .int x553.1), (0, .ref b), (1, .ref (ad 16)), (2, .ref (md 0)), (3, .ref oa), (4, .int v4_23)]) hx hb dL_law_556 hl (by decide) rfl (fun ls hl => ?_)
        refine lv_aload_n hx hb dL_law_558 rfl (lv_at hl 3 rfl) ?_
        refine lv_aload_n hx hb dL_law_559 rfl (lv_at hl 1 rfl) ?_
        refine lv_iload hx hb dL_law_560 (lv_at hl 5 rfl) ?_
        refine lv_iconst (v := 1) hx hb dL_law_562 (by decide) ?_
        refine lv_iadd hx hb dL_law_563 ?_
        obtain ⟨hz564, hf⟩ := gd_some hf
        refine va_sld hx hb hXs hbl hbA hS hz564 dL_law_564 ?_
        obtain ⟨x565, hy565, hf⟩ := Option.bind_eq_some_iff.mp hf
        refine clV_i (As := [.int (xs (((v4_23 + 1) : Int32)).toNatClampNeg)]) (rest := []) (wLL cI cZ cJ ad md oa size_23 rc_23 g_23 fs_23 st_23 ln_23 su_23 rr_23 cr_23 bc_23 bl_23 td_23 fi_23 fa_23 tk_23 gr_23 se_23 sr_23 x565.2 msz_23 mrn_23 mmy_23 mdf_23 mgu_23 mhs_23 mlv_23 mba_23 mgi_23 mfi_23 mle_23 mst_23 msu_23 mtr_23 mdi_23 mfa_23 mca_23 x553.2) ⟨hx, hb, hml, hown, hts⟩ (K_X4_lengthOf l D cI cZ md H.size mth_23 msz_23 mrn_23 mmy_23 mdf_23 mgu_23 mhs_23 mlv_23 mba_23 mgi_23 mfi_23 mle_23 mst_23 msu_23 mtr_23 mdi_23 mfa_23 mca_23 (xs (((v4_23 + 1) : Int32)).toNatClampNeg) _ hy565) (cwV 1 hts gL_law_X4_lengthOf rfl rfl rfl (by decide +kernel) ⟨Nat.le_of_ble_eq_true rfl, Nat.le_of_ble_eq_true rfl⟩) hK hP hD hS hA hl.1 [17, 18, 19, 20, 21, 22, 23, 24, 25, 26, 27] (by decide) rfl rfl rfl 4 17 rfl rfl rfl rfl rfl (Nat.le_of_ble_eq_true rfl) dL_law_565 ⟨by show _ ≤ 660388; omega, by show _ ≤ 7114941; omega⟩ (fun H locs hP hD hS => ?_)
        refine lv_istore (lv' := [(6, .int x565.1), (5, .int x553.1), (0, .ref b), (1, .ref (ad 16)), (2, .ref (md 0)), (3, .ref oa), (4, .int v4_23)]) hx hb dL_law_568 hl (by decide) rfl (fun ls hl => ?_)
        refine lv_aload_n hx hb dL_law_570 rfl (lv_at hl 4 rfl) ?_
        refine clV_i (As := []) (rest := []) (wLL cI cZ cJ ad md oa size_23 rc_23 g_23 fs_23 st_23 ln_23 su_23 rr_23 cr_23 bc_23 bl_23 td_23 fi_23 fa_23 tk_23 gr_23 se_23 sr_23 x565.2 msz_23 mrn_23 mmy_23 mdf_23 mgu_23 mhs_23 mlv_23 mba_23 mgi_23 mfi_23 mle_23 mst_23 msu_23 mtr_23 mdi_23 mfa_23 mca_23 x553.2) ⟨hx, hb, hml, hown, hts⟩ (K_X4_thrown l D cI cZ md H.size x565.2 msz_23 mrn_23 mmy_23 mdf_23 mgu_23 mhs_23 mlv_23 mba_23 mgi_23 mfi_23 mle_23 mst_23 msu_23 mtr_23 mdi_23 mfa_23 mca_23 _ rfl) (cwV 0 hts gL_law_X4_thrown rfl rfl rfl (by decide +kernel) ⟨Nat.le_of_ble_eq_true rfl, Nat.le_of_ble_eq_true rfl⟩) hK hP hD hS hA hl.1 [17, 18, 19, 20, 21, 22, 23, 24, 25, 26, 27] (by decide) rfl rfl rfl 4 17 rfl rfl rfl rfl rfl (Nat.le_of_ble_eq_true rfl) dL_law_571 ⟨by show _ ≤ 660388; omega, by show _ ≤ 7114941; omega⟩ (fun H locs hP hD hS => ?_)
        refine lv_iload hx hb dL_law_574 (lv_at hl 1 rfl) ?_
        refine lv_icmp_eq (tgt := 581) hx hb dL_law_576 (by decide) (fun c_576 => ?_) (fun c_576 => ?_)
        · have hf := ite_t c_576 hf
          refine lv_iload hx hb dL_law_581 (lv_at hl 1 rfl) ?_
          refine lv_if_ne (tgt := 598) hx hb dL_law_583 (by decide) (fun c_583 => ?_) (fun c_583 => ?_)
          · have hf := ite_f c_583 hf
            refine lv_goto (tgt := 964) hx hb dL_law_598 (by decide) ?_
            refine lv_iinc (v := (v4_23 + 3)) (lv' := [(4, .int (v4_23 + 3)), (6, .int x565.1), (5, .int x553.1), (0, .ref b), (1, .ref (ad 16)), (2, .ref (md 0)), (3, .ref oa)]) hx hb dL_law_964 hl (k := 6) rfl rfl (by decide) rfl (fun ls hl => ?_)
            refine lv_goto (tgt := 23) hx hb dL_law_967 (by decide) ?_
            refine W.widen (k := 660388 - 4 * n23) (n := 7114941 - 24 * n23) (by omega) (by omega) ?_
            exact ih23 (v4_23 + 3) size_23 rc_23 g_23 fs_23 st_23 ln_23 su_23 rr_23 cr_23 bc_23 bl_23 td_23 fi_23 fa_23 tk_23 gr_23 se_23 sr_23 x565.2 msz_23 mrn_23 mmy_23 mdf_23 mgu_23 mhs_23 mlv_23 mba_23 mgi_23 mfi_23 mle_23 mst_23 msu_23 mtr_23 mdi_23 mfa_23 mca_23 x553.2 (by omega) hf _ _ _ hP hD hS (lv_sub hl [3, 4, 5, 6, 0] rfl)
          · have hf := ite_t c_583 hf
            refine lv_aload_n hx hb dL_law_586 rfl (lv_at hl 5 rfl) ?_
            refine lv_iconst (v := 0) hx hb dL_law_587 (by decide) ?_
            refine va_lald hx hb hKJ hP 28 0 rfl rfl (show inR 0 1 from by decide) dL_law_588 ?_
            refine lv_iload hx hb dL_law_589 (lv_at hl 0 rfl) ?_
            refine lv_i2l (v := (x565.1 : Int32).toInt64) hx hb dL_law_591 rfl ?_
            refine W.lcmp hx hb dL_law_592 ?_
            refine lv_if_eq (tgt := 598) hx hb dL_law_593 (by decide) (fun c_593 => ?_) (fun c_593 => ?_)
            · have hf := ite_t c_593 hf
              refine lv_goto (tgt := 964) hx hb dL_law_598 (by decide) ?_
              refine lv_iinc (v := (v4_23 + 3)) (lv' := [(4, .int (v4_23 + 3)), (6, .int x565.1), (5, .int x553.1), (0, .ref b), (1, .ref (ad 16)), (2, .ref (md 0)), (3, .ref oa)]) hx hb dL_law_964 hl (k := 6) rfl rfl (by decide) rfl (fun ls hl => ?_)
              refine lv_goto (tgt := 23) hx hb dL_law_967 (by decide) ?_
              refine W.widen (k := 660388 - 4 * n23) (n := 7114941 - 24 * n23) (by omega) (by omega) ?_
              exact ih23 (v4_23 + 3) size_23 rc_23 g_23 fs_23 st_23 ln_23 su_23 rr_23 cr_23 bc_23 bl_23 td_23 fi_23 fa_23 tk_23 gr_23 se_23 sr_23 x565.2 msz_23 mrn_23 mmy_23 mdf_23 mgu_23 mhs_23 mlv_23 mba_23 mgi_23 mfi_23 mle_23 mst_23 msu_23 mtr_23 mdi_23 mfa_23 mca_23 x553.2 (by omega) hf _ _ _ hP hD hS (lv_sub hl [3, 4, 5, 6, 0] rfl)
            · have hf := ite_f c_593 hf
              refine lv_iconst (v := 0) hx hb dL_law_596 (by decide) ?_
              exact absurd (Option.some.inj hf) (by decide)
        · have hf := ite_f c_576 hf
          refine lv_iconst (v := 0) hx hb dL_law_579 (by decide) ?_
          exact absurd (Option.some.inj hf) (by decide)
      have hf := ite_f c_9 hf
      rcases Decidable.em (((xs ((v4_23 : Int32)).toNatClampNeg) &&& 31) = 10) with c_10 | c_10
      · have hf := ite_t c_10 hf
        refine lv_tableIn (off := 562) (tgt := 601) hx hb dL_law_39 (by rw [c_10]; decide) (by rw [c_10]; decide) (by rw [c_10]; rfl) (by decide) ?_
        refine lv_aload_n hx hb dL_law_601 rfl (lv_at hl 1 rfl) ?_
        refine lv_aload_n hx hb dL_law_602 rfl (lv_at hl 0 rfl) ?_
        refine lv_iload hx hb dL_law_603 (lv_at hl 4 rfl) ?_
        refine lv_iconst (v := 1) hx hb dL_law_605 (by decide) ?_
        refine lv_iadd hx hb dL_law_606 ?_
        obtain ⟨hz607, hf⟩ := gd_some hf
        refine va_sld hx hb hXs hbl hbA hS hz607 dL_law_607 ?_
        refine lv_aload_n hx hb dL_law_608 rfl (lv_at hl 3 rfl) ?_
        obtain ⟨x609, hy609, hf⟩ := Option.bind_eq_some_iff.mp hf
        refine clSW_i (As := [.ref (ad 16), .int (xs (((v4_23 + 1) : Int32)).toNatClampNeg), .ref oa]) (rest := []) (wLL cI cZ cJ ad md oa size_23 rc_23 g_23 fs_23 st_23 ln_23 su_23 rr_23 cr_23 bc_23 bl_23 td_23 fi_23 fa_23 tk_23 gr_23 se_23 sr_23 mth_23 msz_23 mrn_23 mmy_23 mdf_23 mgu_23 mhs_23 mlv_23 mba_23 mgi_23 mfi_23 mle_23 mst_23 msu_23 mtr_23 mdi_23 mfa_23 mca_23 x609.2) ⟨hx, hb, hml, hown, hts⟩ (K_L_sumOf l hst D cI cZ cJ ad oa H.size size_23 rc_23 g_23 fs_23 st_23 ln_23 su_23 rr_23 cr_23 bc_23 bl_23 td_23 fi_23 fa_23 tk_23 gr_23 se_23 sr_23 ou_23 (xs (((v4_23 + 1) : Int32)).toNatClampNeg) _ hy609) (vx_cwSW 3 hts gL_law_L_sumOf rfl rfl rfl (by decide +kernel) ⟨Nat.le_of_ble_eq_true rfl, Nat.le_of_ble_eq_true rfl⟩) hK hXS hKJ hNC hP hD hS hA hl.1 [0, 1, 2, 3, 4, 5, 6, 7, 8, 9, 10, 11, 12, 13, 14, 15, 16, 28] (by decide) rfl rfl rfl rfl rfl (Nat.le_of_ble_eq_true rfl) dL_law_609 ⟨by show _ ≤ 660388; omega, by show _ ≤ 7114941; omega⟩ (fun H locs hP hD hS => ?_)
        refine lv_istore (lv' := [(5, .int x609.1), (0, .ref b), (1, .ref (ad 16)), (2, .ref (md 0)), (3, .ref oa), (4, .int v4_23)]) hx hb dL_law_612 hl (by decide) rfl (fun ls hl => ?_)
        refine lv_aload_n hx hb dL_law_614 rfl (lv_at hl 3 rfl) ?_
        refine lv_aload_n hx hb dL_law_615 rfl (lv_at hl 1 rfl) ?_
        refine lv_iload hx hb dL_law_616 (lv_at hl 5 rfl) ?_
        refine lv_iconst (v := 1) hx hb dL_law_618 (by decide) ?_
        refine lv_iadd hx hb dL_law_619 ?_
        obtain ⟨hz620, hf⟩ := gd_some hf
        refine va_sld hx hb hXs hbl hbA hS hz620 dL_law_620 ?_
        obtain ⟨x621, hy621, hf⟩ := Option.bind_eq_some_iff.mp hf
        refine clV_i (As := [.int (xs (((v4_23 + 1) : Int32)).toNatClampNeg)]) (rest := []) (wLL cI cZ cJ ad md oa size_23 rc_23 g_23 fs_23 st_23 ln_23 su_23 rr_23 cr_23 bc_23 bl_23 td_23 fi_23 fa_23 tk_23 gr_23 se_23 sr_23 x621.2 msz_23 mrn_23 mmy_23 mdf_23 mgu_23 mhs_23 mlv_23 mba_23 mgi_23 mfi_23 mle_23 mst_23 msu_23 mtr_23 mdi_23 mfa_23 mca_23 x609.2) ⟨hx, hb, hml, hown, hts⟩ (K_X4_sumOf l D cI cZ md H.size mth_23 msz_23 mrn_23 mmy_23 mdf_23 mgu_23 mhs_23 mlv_23 mba_23 mgi_23 mfi_23 mle_23 mst_23 msu_23 mtr_23 mdi_23 mfa_23 mca_23 (xs (((v4_23 + 1) : Int32)).toNatClampNeg) _ hy621) (cwV 1 hts gL_law_X4_sumOf rfl rfl rfl (by decide +kernel) ⟨Nat.le_of_ble_eq_true rfl, Nat.le_of_ble_eq_true rfl⟩) hK hP hD hS hA hl.1 [17, 18, 19, 20, 21, 22, 23, 24, 25, 26, 27] (by decide) rfl rfl rfl 4 17 rfl rfl rfl rfl rfl (Nat.le_of_ble_eq_true rfl) dL_law_621 ⟨by show _ ≤ 660388; omega, by show _ ≤ 7114941; omega⟩ (fun H locs hP hD hS => ?_)
        refine lv_istore (lv' := [(6, .int x621.1), (5, .int x609.1), (0, .ref b), (1, .ref (ad 16)), (2, .ref (md 0)), (3, .ref oa), (4, .int v4_23)]) hx hb dL_law_624 hl (by decide) rfl (fun ls hl => ?_)
        refine lv_aload_n hx hb dL_law_626 rfl (lv_at hl 4 rfl) ?_
        refine clV_i (As := []) (rest := []) (wLL cI cZ cJ ad md oa size_23 rc_23 g_23 fs_23 st_23 ln_23 su_23 rr_23 cr_23 bc_23 bl_23 td_23 fi_23 fa_23 tk_23 gr_23 se_23 sr_23 x621.2 msz_23 mrn_23 mmy_23 mdf_23 mgu_23 mhs_23 mlv_23 mba_23 mgi_23 mfi_23 mle_23 mst_23 msu_23 mtr_23 mdi_23 mfa_23 mca_23 x609.2) ⟨hx, hb, hml, hown, hts⟩ (K_X4_thrown l D cI cZ md H.size x621.2 msz_23 mrn_23 mmy_23 mdf_23 mgu_23 mhs_23 mlv_23 mba_23 mgi_23 mfi_23 mle_23 mst_23 msu_23 mtr_23 mdi_23 mfa_23 mca_23 _ rfl) (cwV 0 hts gL_law_X4_thrown rfl rfl rfl (by decide +kernel) ⟨Nat.le_of_ble_eq_true rfl, Nat.le_of_ble_eq_true rfl⟩) hK hP hD hS hA hl.1 [17, 18, 19, 20, 21, 22, 23, 24, 25, 26, 27] (by decide) rfl rfl rfl 4 17 rfl rfl rfl rfl rfl (Nat.le_of_ble_eq_true rfl) dL_law_627 ⟨by show _ ≤ 660388; omega, by show _ ≤ 7114941; omega⟩ (fun H locs hP hD hS => ?_)
        refine lv_iload hx hb dL_law_630 (lv_at hl 1 rfl) ?_
        refine lv_icmp_eq (tgt := 637) hx hb dL_law_632 (by decide) (fun c_632 => ?_) (fun c_632 => ?_)
        · have hf := ite_t c_632 hf
          refine lv_iload hx hb dL_law_637 (lv_at hl 1 rfl) ?_
          refine lv_if_ne (tgt := 654) hx hb dL_law_639 (by decide) (fun c_639 => ?_) (fun c_639 => ?_)
          · have hf := ite_f c_639 hf
            refine lv_goto (tgt := 964) hx hb dL_law_654 (by decide) ?_
            refine lv_iinc (v := (v4_23 + 3)) (lv' := [(4, .int (v4_23 + 3)), (6, .int x621.1), (5, .int x609.1), (0, .ref b), (1, .ref (ad 16)), (2, .ref (md 0)), (3, .ref oa)]) hx hb dL_law_964 hl (k := 6) rfl rfl (by decide) rfl (fun ls hl => ?_)
            refine lv_goto (tgt := 23) hx hb dL_law_967 (by decide) ?_
            refine W.widen (k := 660388 - 4 * n23) (n := 7114941 - 24 * n23) (by omega) (by omega) ?_
            exact ih23 (v4_23 + 3) size_23 rc_23 g_23 fs_23 st_23 ln_23 su_23 rr_23 cr_23 bc_23 bl_23 td_23 fi_23 fa_23 tk_23 gr_23 se_23 sr_23 x621.2 msz_23 mrn_23 mmy_23 mdf_23 mgu_23 mhs_23 mlv_23 mba_23 mgi_23 mfi_23 mle_23 mst_23 msu_23 mtr_23 mdi_23 mfa_23 mca_23 x609.2 (by omega) hf _ _ _ hP hD hS (lv_sub hl [3, 4, 5, 6, 0] rfl)
          · have hf := ite_t c_639 hf
            refine lv_aload_n hx hb dL_law_642 rfl (lv_at hl 5 rfl) ?_
            refine lv_iconst (v := 0) hx hb dL_law_643 (by decide) ?_
            refine va_lald hx hb hKJ hP 28 0 rfl rfl (show inR 0 1 from by decide) dL_law_644 ?_
            refine lv_iload hx hb dL_law_645 (lv_at hl 0 rfl) ?_
            refine lv_i2l (v := (x621.1 : Int32).toInt64) hx hb dL_law_647 rfl ?_
            refine W.lcmp hx hb dL_law_648 ?_
            refine lv_if_eq (tgt := 654) hx hb dL_law_649 (by decide) (fun c_649 => ?_) (fun c_649 => ?_)
            · have hf := ite_t c_649 hf
              refine lv_goto (tgt := 964) hx hb dL_law_654 (by decide) ?_
              refine lv_iinc (v := (v4_23 + 3)) (lv' := [(4, .int (v4_23 + 3)), (6, .int x621.1), (5, .int x609.1), (0, .ref b), (1, .ref (ad 16)), (2, .ref (md 0)), (3, .ref oa)]) hx hb dL_law_964 hl (k := 6) rfl rfl (by decide) rfl (fun ls hl => ?_)
              refine lv_goto (tgt := 23) hx hb dL_law_967 (by decide) ?_
              refine W.widen (k := 660388 - 4 * n23) (n := 7114941 - 24 * n23) (by omega) (by omega) ?_
              exact ih23 (v4_23 + 3) size_23 rc_23 g_23 fs_23 st_23 ln_23 su_23 rr_23 cr_23 bc_23 bl_23 td_23 fi_23 fa_23 tk_23 gr_23 se_23 sr_23 x621.2 msz_23 mrn_23 mmy_23 mdf_23 mgu_23 mhs_23 mlv_23 mba_23 mgi_23 mfi_23 mle_23 mst_23 msu_23 mtr_23 mdi_23 mfa_23 mca_23 x609.2 (by omega) hf _ _ _ hP hD hS (lv_sub hl [3, 4, 5, 6, 0] rfl)
            · have hf := ite_f c_649 hf
              refine lv_iconst (v := 0) hx hb dL_law_652 (by decide) ?_
              exact absurd (Option.some.inj hf) (by decide)
        · have hf := ite_f c_632 hf
          refine lv_iconst (v := 0) hx hb dL_law_635 (by decide) ?_
          exact absurd (Option.some.inj hf) (by decide)
      have hf := ite_f c_10 hf
      rcases Decidable.em (((xs ((v4_23 : Int32)).toNatClampNeg) &&& 31) = 11) with c_11 | c_11
      · have hf := ite_t c_11 hf
        refine lv_tableIn (off := 618) (tgt := 657) hx hb dL_law_39 (by rw [c_11]; decide) (by rw [c_11]; decide) (by rw [c_11]; rfl) (by decide) ?_
        refine lv_aload_n hx hb dL_law_657 rfl (lv_at hl 1 rfl) ?_
        refine lv_aload_n hx hb dL_law_658 rfl (lv_at hl 0 rfl) ?_
        refine lv_iload hx hb dL_law_659 (lv_at hl 4 rfl) ?_
        refine lv_iconst (v := 1) hx hb dL_law_661 (by decide) ?_
        refine lv_iadd hx hb dL_law_662 ?_
        obtain ⟨hz663, hf⟩ := gd_some hf
        refine va_sld hx hb hXs hbl hbA hS hz663 dL_law_663 ?_
        refine lv_aload_n hx hb dL_law_664 rfl (lv_at hl 3 rfl) ?_
        obtain ⟨x665, hy665, hf⟩ := Option.bind_eq_some_iff.mp hf
        refine clSW_i (As := [.ref (ad 16), .int (xs (((v4_23 + 1) : Int32)).toNatClampNeg), .ref oa]) (rest := []) (wLL cI cZ cJ ad md oa size_23 rc_23 g_23 fs_23 st_23 ln_23 su_23 rr_23 cr_23 bc_23 bl_23 td_23 fi_23 fa_23 tk_23 gr_23 se_23 sr_23 mth_23 msz_23 mrn_23 mmy_23 mdf_23 mgu_23 mhs_23 mlv_23 mba_23 mgi_23 mfi_23 mle_23 mst_23 msu_23 mtr_23 mdi_23 mfa_23 mca_23 x665.2) ⟨hx, hb, hml, hown, hts⟩ (K_L_digit l hst D cI cZ cJ ad oa H.size size_23 rc_23 g_23 fs_23 st_23 ln_23 su_23 rr_23 cr_23 bc_23 bl_23 td_23 fi_23 fa_23 tk_23 gr_23 se_23 sr_23 ou_23 (xs (((v4_23 + 1) : Int32)).toNatClampNeg) _ hy665) (vx_cwSW 3 hts gL_law_L_digit rfl rfl rfl (by decide +kernel) ⟨Nat.le_of_ble_eq_true rfl, Nat.le_of_ble_eq_true rfl⟩) hK hXS hKJ hNC hP hD hS hA hl.1 [0, 1, 2, 3, 4, 5, 6, 7, 8, 9, 10, 11, 12, 13, 14, 15, 16, 28] (by decide) rfl rfl rfl rfl rfl (Nat.le_of_ble_eq_true rfl) dL_law_665 ⟨by show _ ≤ 660388; omega, by show _ ≤ 7114941; omega⟩ (fun H locs hP hD hS => ?_)
        refine lv_istore (lv' := [(5, .int x665.1), (0, .ref b), (1, .ref (ad 16)), (2, .ref (md 0)), (3, .ref oa), (4, .int v4_23)]) hx hb dL_law_668 hl (by decide) rfl (fun ls hl => ?_)
        refine lv_aload_n hx hb dL_law_670 rfl (lv_at hl 3 rfl) ?_
        refine lv_aload_n hx hb dL_law_671 rfl (lv_at hl 1 rfl) ?_
        refine lv_iload hx hb dL_law_672 (lv_at hl 5 rfl) ?_
        refine lv_iconst (v := 1) hx hb dL_law_674 (by decide) ?_
        refine lv_iadd hx hb dL_law_675 ?_
        obtain ⟨hz676, hf⟩ := gd_some hf
        refine va_sld hx hb hXs hbl hbA hS hz676 dL_law_676 ?_
        obtain ⟨x677, hy677, hf⟩ := Option.bind_eq_some_iff.mp hf
        refine clV_i (As := [.int (xs (((v4_23 + 1) : Int32)).toNatClampNeg)]) (rest := []) (wLL cI cZ cJ ad md oa size_23 rc_23 g_23 fs_23 st_23 ln_23 su_23 rr_23 cr_23 bc_23 bl_23 td_23 fi_23 fa_23 tk_23 gr_23 se_23 sr_23 x677.2 msz_23 mrn_23 mmy_23 mdf_23 mgu_23 mhs_23 mlv_23 mba_23 mgi_23 mfi_23 mle_23 mst_23 msu_23 mtr_23 mdi_23 mfa_23 mca_23 x665.2) ⟨hx, hb, hml, hown, hts⟩ (K_X4_digit l D cI cZ md H.size mth_23 msz_23 mrn_23 mmy_23 mdf_23 mgu_23 mhs_23 mlv_23 mba_23 mgi_23 mfi_23 mle_23 mst_23 msu_23 mtr_23 mdi_23 mfa_23 mca_23 (xs (((v4_23 + 1) : Int32)).toNatClampNeg) _ hy677) (cwV 1 hts gL_law_X4_digit rfl rfl rfl (by decide +kernel) ⟨Nat.le_of_ble_eq_true rfl, Nat.le_of_ble_eq_true rfl⟩) hK hP hD hS hA hl.1 [17, 18, 19, 20, 21, 22, 23, 24, 25, 26, 27] (by decide) rfl rfl rfl 4 17 rfl rfl rfl rfl rfl (Nat.le_of_ble_eq_true rfl) dL_law_677 ⟨by show _ ≤ 660388; omega, by show _ ≤ 7114941; omega⟩ (fun H locs hP hD hS => ?_)
        refine lv_istore (lv' := [(6, .int x677.1), (5, .int x665.1), (0, .ref b), (1, .ref (ad 16)), (2, .ref (md 0)), (3, .ref oa), (4, .int v4_23)]) hx hb dL_law_680 hl (by decide) rfl (fun ls hl => ?_)
        refine lv_aload_n hx hb dL_law_682 rfl (lv_at hl 4 rfl) ?_
        refine clV_i (As := []) (rest := []) (wLL cI cZ cJ ad md oa size_23 rc_23 g_23 fs_23 st_23 ln_23 su_23 rr_23 cr_23 bc_23 bl_23 td_23 fi_23 fa_23 tk_23 gr_23 se_23 sr_23 x677.2 msz_23 mrn_23 mmy_23 mdf_23 mgu_23 mhs_23 mlv_23 mba_23 mgi_23 mfi_23 mle_23 mst_23 msu_23 mtr_23 mdi_23 mfa_23 mca_23 x665.2) ⟨hx, hb, hml, hown, hts⟩ (K_X4_thrown l D cI cZ md H.size x677.2 msz_23 mrn_23 mmy_23 mdf_23 mgu_23 mhs_23 mlv_23 mba_23 mgi_23 mfi_23 mle_23 mst_23 msu_23 mtr_23 mdi_23 mfa_23 mca_23 _ rfl) (cwV 0 hts gL_law_X4_thrown rfl rfl rfl (by decide +kernel) ⟨Nat.le_of_ble_eq_true rfl, Nat.le_of_ble_eq_true rfl⟩) hK hP hD hS hA hl.1 [17, 18, 19, 20, 21, 22, 23, 24, 25, 26, 27] (by decide) rfl rfl rfl 4 17 rfl rfl rfl rfl rfl (Nat.le_of_ble_eq_true rfl) dL_law_683 ⟨by show _ ≤ 660388; omega, by show _ ≤ 7114941; omega⟩ (fun H locs hP hD hS => ?_)
        refine lv_iload hx hb dL_law_686 (lv_at hl 1 rfl) ?_
        refine lv_icmp_eq (tgt := 693) hx hb dL_law_688 (by decide) (fun c_688 => ?_) (fun c_688 => ?_)
        · have hf := ite_t c_688 hf
          refine lv_iload hx hb dL_law_693 (lv_at hl 1 rfl) ?_
          refine lv_if_ne (tgt := 710) hx hb dL_law_695 (by decide) (fun c_695 => ?_) (fun c_695 => ?_)
          · have hf := ite_f c_695 hf
            refine lv_goto (tgt := 964) hx hb dL_law_710 (by decide) ?_
            refine lv_iinc (v := (v4_23 + 3)) (lv' := [(4, .int (v4_23 + 3)), (6, .int x677.1), (5, .int x665.1), (0, .ref b), (1, .ref (ad 16)), (2, .ref (md 0)), (3, .ref oa)]) hx hb dL_law_964 hl (k := 6) rfl rfl (by decide) rfl (fun ls hl => ?_)
            refine lv_goto (tgt := 23) hx hb dL_law_967 (by decide) ?_
            refine W.widen (k := 660388 - 4 * n23) (n := 7114941 - 24 * n23) (by omega) (by omega) ?_
            exact ih23 (v4_23 + 3) size_23 rc_23 g_23 fs_23 st_23 ln_23 su_23 rr_23 cr_23 bc_23 bl_23 td_23 fi_23 fa_23 tk_23 gr_23 se_23 sr_23 x677.2 msz_23 mrn_23 mmy_23 mdf_23 mgu_23 mhs_23 mlv_23 mba_23 mgi_23 mfi_23 mle_23 mst_23 msu_23 mtr_23 mdi_23 mfa_23 mca_23 x665.2 (by omega) hf _ _ _ hP hD hS (lv_sub hl [3, 4, 5, 6, 0] rfl)
          · have hf := ite_t c_695 hf
            refine lv_aload_n hx hb dL_law_698 rfl (lv_at hl 5 rfl) ?_
            refine lv_iconst (v := 0) hx hb dL_law_699 (by decide) ?_
            refine va_lald hx hb hKJ hP 28 0 rfl rfl (show inR 0 1 from by decide) dL_law_700 ?_
            refine lv_iload hx hb dL_law_701 (lv_at hl 0 rfl) ?_
            refine lv_i2l (v := (x677.1 : Int32).toInt64) hx hb dL_law_703 rfl ?_
            refine W.lcmp hx hb dL_law_704 ?_
            refine lv_if_eq (tgt := 710) hx hb dL_law_705 (by decide) (fun c_705 => ?_) (fun c_705 => ?_)
            · have hf := ite_t c_705 hf
              refine lv_goto (tgt := 964) hx hb dL_law_710 (by decide) ?_
              refine lv_iinc (v := (v4_23 + 3)) (lv' := [(4, .int (v4_23 + 3)), (6, .int x677.1), (5, .int x665.1), (0, .ref b), (1, .ref (ad 16)), (2, .ref (md 0)), (3, .ref oa)]) hx hb dL_law_964 hl (k := 6) rfl rfl (by decide) rfl (fun ls hl => ?_)
              refine lv_goto (tgt := 23) hx hb dL_law_967 (by decide) ?_
              refine W.widen (k := 660388 - 4 * n23) (n := 7114941 - 24 * n23) (by omega) (by omega) ?_
              exact ih23 (v4_23 + 3) size_23 rc_23 g_23 fs_23 st_23 ln_23 su_23 rr_23 cr_23 bc_23 bl_23 td_23 fi_23 fa_23 tk_23 gr_23 se_23 sr_23 x677.2 msz_23 mrn_23 mmy_23 mdf_23 mgu_23 mhs_23 mlv_23 mba_23 mgi_23 mfi_23 mle_23 mst_23 msu_23 mtr_23 mdi_23 mfa_23 mca_23 x665.2 (by omega) hf _ _ _ hP hD hS (lv_sub hl [3, 4, 5, 6, 0] rfl)
            · have hf := ite_f c_705 hf
              refine lv_iconst (v := 0) hx hb dL_law_708 (by decide) ?_
              exact absurd (Option.some.inj hf) (by decide)
        · have hf := ite_f c_688 hf
          refine lv_iconst (v := 0) hx hb dL_law_691 (by decide) ?_
          exact absurd (Option.some.inj hf) (by decide)
      have hf := ite_f c_11 hf
      rcases Decidable.em (((xs ((v4_23 : Int32)).toNatClampNeg) &&& 31) = 12) with c_12 | c_12
      · have hf := ite_t c_12 hf
        refine lv_tableIn (off := 674) (tgt := 713) hx hb dL_law_39 (by rw [c_12]; decide) (by rw [c_12]; decide) (by rw [c_12]; rfl) (by decide) ?_
        refine lv_aload_n hx hb dL_law_713 rfl (lv_at hl 1 rfl) ?_
        refine lv_aload_n hx hb dL_law_714 rfl (lv_at hl 0 rfl) ?_
        refine lv_iload hx hb dL_law_715 (lv_at hl 4 rfl) ?_
        refine lv_iconst (v := 1) hx hb dL_law_717 (by decide) ?_
        refine lv_iadd hx hb dL_law_718 ?_
        obtain ⟨hz719, hf⟩ := gd_some hf
        refine va_sld hx hb hXs hbl hbA hS hz719 dL_law_719 ?_
        refine lv_aload_n hx hb dL_law_720 rfl (lv_at hl 3 rfl) ?_
        obtain ⟨x721, hy721, hf⟩ := Option.bind_eq_some_iff.mp hf
        refine clSW_i (As := [.ref (ad 16), .int (xs (((v4_23 + 1) : Int32)).toNatClampNeg), .ref oa]) (rest := []) (wLL cI cZ cJ ad md oa size_23 rc_23 g_23 fs_23 st_23 ln_23 su_23 rr_23 cr_23 x721.2.1 x721.2.2.1 x721.2.2.2.1 x721.2.2.2.2.1 x721.2.2.2.2.2.1 tk_23 gr_23 se_23 sr_23 mth_23 msz_23 mrn_23 mmy_23 mdf_23 mgu_23 mhs_23 mlv_23 mba_23 mgi_23 mfi_23 mle_23 mst_23 msu_23 mtr_23 mdi_23 mfa_23 mca_23 x721.2.2.2.2.2.2) ⟨hx, hb, hml, hown, hts⟩ (K_L_answers l hst D cI cZ cJ ad oa H.size N size_23 rc_23 g_23 fs_23 st_23 ln_23 su_23 rr_23 cr_23 bc_23 bl_23 td_23 fi_23 fa_23 tk_23 gr_23 se_23 sr_23 ou_23 (xs (((v4_23 + 1) : Int32)).toNatClampNeg) _ hy721) (vx_cwSW 3 hts gL_law_L_answers rfl rfl rfl (by decide +kernel) ⟨Nat.le_of_ble_eq_true rfl, Nat.le_of_ble_eq_true rfl⟩) hK hXS hKJ hNC hP hD hS hA hl.1 [0, 1, 2, 3, 4, 5, 6, 7, 8, 9, 10, 11, 12, 13, 14, 15, 16, 28] (by decide) rfl rfl rfl rfl rfl (Nat.le_of_ble_eq_true rfl) dL_law_721 ⟨by show _ ≤ 660388; omega, by show _ ≤ 7114941; omega⟩ (fun H locs hP hD hS => ?_)
        refine lv_istore (lv' := [(5, .int x721.1), (0, .ref b), (1, .ref (ad 16)), (2, .ref (md 0)), (3, .ref oa), (4, .int v4_23)]) hx hb dL_law_724 hl (by decide) rfl (fun ls hl => ?_)
        refine lv_aload_n hx hb dL_law_726 rfl (lv_at hl 3 rfl) ?_
        refine lv_aload_n hx hb dL_law_727 rfl (lv_at hl 1 rfl) ?_
        refine lv_iload hx hb dL_law_728 (lv_at hl 5 rfl) ?_
        refine lv_iconst (v := 1) hx hb dL_law_730 (by decide) ?_
        refine lv_iadd hx hb dL_law_731 ?_
        obtain ⟨hz732, hf⟩ := gd_some hf
        refine va_sld hx hb hXs hbl hbA hS hz732 dL_law_732 ?_
        obtain ⟨x733, hy733, hf⟩ := Option.bind_eq_some_iff.mp hf
        refine clV_i (As := [.int (xs (((v4_23 + 1) : Int32)).toNatClampNeg)]) (rest := []) (wLL cI cZ cJ ad md oa size_23 rc_23 g_23 fs_23 st_23 ln_23 su_23 rr_23 cr_23 x721.2.1 x721.2.2.1 x721.2.2.2.1 x721.2.2.2.2.1 x721.2.2.2.2.2.1 tk_23 gr_23 se_23 sr_23 x733.2.1 msz_23 mrn_23 x733.2.2.1 x733.2.2.2.1 x733.2.2.2.2.1 mhs_23 mlv_23 mba_23 mgi_23 mfi_23 mle_23 mst_23 msu_23 x733.2.2.2.2.2.1 x733.2.2.2.2.2.2.1 x733.2.2.2.2.2.2.2 mca_23 x721.2.2.2.2.2.2) ⟨hx, hb, hml, hown, hts⟩ (K_X4_answers l D cI cZ md H.size N mth_23 msz_23 mrn_23 mmy_23 mdf_23 mgu_23 mhs_23 mlv_23 mba_23 mgi_23 mfi_23 mle_23 mst_23 msu_23 mtr_23 mdi_23 mfa_23 mca_23 (xs (((v4_23 + 1) : Int32)).toNatClampNeg) _ hy733) (cwV 1 hts gL_law_X4_answers rfl rfl rfl (by decide +kernel) ⟨Nat.le_of_ble_eq_true rfl, Nat.le_of_ble_eq_true rfl⟩) hK hP hD hS hA hl.1 [17, 18, 19, 20, 21, 22, 23, 24, 25, 26, 27] (by decide) rfl rfl rfl 4 17 rfl rfl rfl rfl rfl (Nat.le_of_ble_eq_true rfl) dL_law_733 ⟨by show _ ≤ 660388; omega, by show _ ≤ 7114941; omega⟩ (fun H locs hP hD hS => ?_)
        refine lv_istore (lv' := [(6, .int x733.1), (5, .int x721.1), (0, .ref b), (1, .ref (ad 16)), (2, .ref (md 0)), (3, .ref oa), (4, .int v4_23)]) hx hb dL_law_736 hl (by decide) rfl (fun ls hl => ?_)
        refine lv_aload_n hx hb dL_law_738 rfl (lv_at hl 4 rfl) ?_
        refine clV_i (As := []) (rest := []) (wLL cI cZ cJ ad md oa size_23 rc_23 g_23 fs_23 st_23 ln_23 su_23 rr_23 cr_23 x721.2.1 x721.2.2.1 x721.2.2.2.1 x721.2.2.2.2.1 x721.2.2.2.2.2.1 tk_23 gr_23 se_23 sr_23 x733.2.1 msz_23 mrn_23 x733.2.2.1 x733.2.2.2.1 x733.2.2.2.2.1 mhs_23 mlv_23 mba_23 mgi_23 mfi_23 mle_23 mst_23 msu_23 x733.2.2.2.2.2.1 x733.2.2.2.2.2.2.1 x733.2.2.2.2.2.2.2 mca_23 x721.2.2.2.2.2.2) ⟨hx, hb, hml, hown, hts⟩ (K_X4_thrown l D cI cZ md H.size x733.2.1 msz_23 mrn_23 x733.2.2.1 x733.2.2.2.1 x733.2.2.2.2.1 mhs_23 mlv_23 mba_23 mgi_23 mfi_23 mle_23 mst_23 msu_23 x733.2.2.2.2.2.1 x733.2.2.2.2.2.2.1 x733.2.2.2.2.2.2.2 mca_23 _ rfl) (cwV 0 hts gL_law_X4_thrown rfl rfl rfl (by decide +kernel) ⟨Nat.le_of_ble_eq_true rfl, Nat.le_of_ble_eq_true rfl⟩) hK hP hD hS hA hl.1 [17, 18, 19, 20, 21, 22, 23, 24, 25, 26, 27] (by decide) rfl rfl rfl 4 17 rfl rfl rfl rfl rfl (Nat.le_of_ble_eq_true rfl) dL_law_739 ⟨by show _ ≤ 660388; omega, by show _ ≤ 7114941; omega⟩ (fun H locs hP hD hS => ?_)
        refine lv_iload hx hb dL_law_742 (lv_at hl 1 rfl) ?_
        refine lv_icmp_eq (tgt := 749) hx hb dL_law_744 (by decide) (fun c_744 => ?_) (fun c_744 => ?_)
        · have hf := ite_t c_744 hf
          refine lv_iload hx hb dL_law_749 (lv_at hl 1 rfl) ?_
          refine lv_if_ne (tgt := 766) hx hb dL_law_751 (by decide) (fun c_751 => ?_) (fun c_751 => ?_)
          · have hf := ite_f c_751 hf
            refine lv_goto (tgt := 964) hx hb dL_law_766 (by decide) ?_
            refine lv_iinc (v := (v4_23 + 3)) (lv' := [(4, .int (v4_23 + 3)), (6, .int x733.1), (5, .int x721.1), (0, .ref b), (1, .ref (ad 16)), (2, .ref (md 0)), (3, .ref oa)]) hx hb dL_law_964 hl (k := 6) rfl rfl (by decide) rfl (fun ls hl => ?_)
            refine lv_goto (tgt := 23) hx hb dL_law_967 (by decide) ?_
            refine W.widen (k := 660388 - 4 * n23) (n := 7114941 - 24 * n23) (by omega) (by omega) ?_
            exact ih23 (v4_23 + 3) size_23 rc_23 g_23 fs_23 st_23 ln_23 su_23 rr_23 cr_23 x721.2.1 x721.2.2.1 x721.2.2.2.1 x721.2.2.2.2.1 x721.2.2.2.2.2.1 tk_23 gr_23 se_23 sr_23 x733.2.1 msz_23 mrn_23 x733.2.2.1 x733.2.2.2.1 x733.2.2.2.2.1 mhs_23 mlv_23 mba_23 mgi_23 mfi_23 mle_23 mst_23 msu_23 x733.2.2.2.2.2.1 x733.2.2.2.2.2.2.1 x733.2.2.2.2.2.2.2 mca_23 x721.2.2.2.2.2.2 (by omega) hf _ _ _ hP hD hS (lv_sub hl [3, 4, 5, 6, 0] rfl)
          · have hf := ite_t c_751 hf
            refine lv_aload_n hx hb dL_law_754 rfl (lv_at hl 5 rfl) ?_
            refine lv_iconst (v := 0) hx hb dL_law_755 (by decide) ?_
            refine va_lald hx hb hKJ hP 28 0 rfl rfl (show inR 0 1 from by decide) dL_law_756 ?_
            refine lv_iload hx hb dL_law_757 (lv_at hl 0 rfl) ?_
            refine lv_i2l (v := (x733.1 : Int32).toInt64) hx hb dL_law_759 rfl ?_
            refine W.lcmp hx hb dL_law_760 ?_
            refine lv_if_eq (tgt := 766) hx hb dL_law_761 (by decide) (fun c_761 => ?_) (fun c_761 => ?_)
            · have hf := ite_t c_761 hf
              refine lv_goto (tgt := 964) hx hb dL_law_766 (by decide) ?_
              refine lv_iinc (v := (v4_23 + 3)) (lv' := [(4, .int (v4_23 + 3)), (6, .int x733.1), (5, .int x721.1), (0, .ref b), (1, .ref (ad 16)), (2, .ref (md 0)), (3, .ref oa)]) hx hb dL_law_964 hl (k := 6) rfl rfl (by decide) rfl (fun ls hl => ?_)
              refine lv_goto (tgt := 23) hx hb dL_law_967 (by decide) ?_
              refine W.widen (k := 660388 - 4 * n23) (n := 7114941 - 24 * n23) (by omega) (by omega) ?_
              exact ih23 (v4_23 + 3) size_23 rc_23 g_23 fs_23 st_23 ln_23 su_23 rr_23 cr_23 x721.2.1 x721.2.2.1 x721.2.2.2.1 x721.2.2.2.2.1 x721.2.2.2.2.2.1 tk_23 gr_23 se_23 sr_23 x733.2.1 msz_23 mrn_23 x733.2.2.1 x733.2.2.2.1 x733.2.2.2.2.1 mhs_23 mlv_23 mba_23 mgi_23 mfi_23 mle_23 mst_23 msu_23 x733.2.2.2.2.2.1 x733.2.2.2.2.2.2.1 x733.2.2.2.2.2.2.2 mca_23 x721.2.2.2.2.2.2 (by omega) hf _ _ _ hP hD hS (lv_sub hl [3, 4, 5, 6, 0] rfl)
            · have hf := ite_f c_761 hf
              refine lv_iconst (v := 0) hx hb dL_law_764 (by decide) ?_
              exact absurd (Option.some.inj hf) (by decide)
        · have hf := ite_f c_744 hf
          refine lv_iconst (v := 0) hx hb dL_law_747 (by decide) ?_
          exact absurd (Option.some.inj hf) (by decide)
      have hf := ite_f c_12 hf
      rcases Decidable.em (((xs ((v4_23 : Int32)).toNatClampNeg) &&& 31) = 13) with c_13 | c_13
      · have hf := ite_t c_13 hf
        refine lv_tableIn (off := 730) (tgt := 769) hx hb dL_law_39 (by rw [c_13]; decide) (by rw [c_13]; decide) (by rw [c_13]; rfl) (by decide) ?_
        refine lv_aload_n hx hb dL_law_769 rfl (lv_at hl 1 rfl) ?_
        refine lv_aload_n hx hb dL_law_770 rfl (lv_at hl 3 rfl) ?_
        obtain ⟨x771, hy771, hf⟩ := Option.bind_eq_some_iff.mp hf
        refine clSW_i (As := [.ref (ad 16), .ref oa]) (rest := []) (wLL cI cZ cJ ad md oa size_23 rc_23 g_23 fs_23 st_23 ln_23 su_23 rr_23 cr_23 x771.2.1 x771.2.2.1 x771.2.2.2.1 x771.2.2.2.2.1 fa_23 tk_23 gr_23 se_23 sr_23 mth_23 msz_23 mrn_23 mmy_23 mdf_23 mgu_23 mhs_23 mlv_23 mba_23 mgi_23 mfi_23 mle_23 mst_23 msu_23 mtr_23 mdi_23 mfa_23 mca_23 x771.2.2.2.2.2) ⟨hx, hb, hml, hown, hts⟩ (K_L_answersByAll l hst D cI cZ cJ ad oa H.size N size_23 rc_23 g_23 fs_23 st_23 ln_23 su_23 rr_23 cr_23 bc_23 bl_23 td_23 fi_23 fa_23 tk_23 gr_23 se_23 sr_23 ou_23 _ hy771) (vx_cwSW 2 hts gL_law_L_answersByAll rfl rfl rfl (by decide +kernel) ⟨Nat.le_of_ble_eq_true rfl, Nat.le_of_ble_eq_true rfl⟩) hK hXS hKJ hNC hP hD hS hA hl.1 [0, 1, 2, 3, 4, 5, 6, 7, 8, 9, 10, 11, 12, 13, 14, 15, 16, 28] (by decide) rfl rfl rfl rfl rfl (Nat.le_of_ble_eq_true rfl) dL_law_771 ⟨by show _ ≤ 660388; omega, by show _ ≤ 7114941; omega⟩ (fun H locs hP hD hS => ?_)
        refine lv_istore (lv' := [(5, .int x771.1), (0, .ref b), (1, .ref (ad 16)), (2, .ref (md 0)), (3, .ref oa), (4, .int v4_23)]) hx hb dL_law_774 hl (by decide) rfl (fun ls hl => ?_)
        refine lv_aload_n hx hb dL_law_776 rfl (lv_at hl 3 rfl) ?_
        obtain ⟨x777, hy777, hf⟩ := Option.bind_eq_some_iff.mp hf
        refine clV_i (As := []) (rest := []) (wLL cI cZ cJ ad md oa size_23 rc_23 g_23 fs_23 st_23 ln_23 su_23 rr_23 cr_23 x771.2.1 x771.2.2.1 x771.2.2.2.1 x771.2.2.2.2.1 fa_23 tk_23 gr_23 se_23 sr_23 x777.2.1 msz_23 mrn_23 x777.2.2.1 mdf_23 mgu_23 mhs_23 mlv_23 mba_23 mgi_23 mfi_23 mle_23 mst_23 msu_23 x777.2.2.2.1 x777.2.2.2.2 mfa_23 mca_23 x771.2.2.2.2.2) ⟨hx, hb, hml, hown, hts⟩ (K_X4_answersByAll l D cI cZ md H.size N mth_23 msz_23 mrn_23 mmy_23 mdf_23 mgu_23 mhs_23 mlv_23 mba_23 mgi_23 mfi_23 mle_23 mst_23 msu_23 mtr_23 mdi_23 mfa_23 mca_23 _ hy777) (cwV 0 hts gL_law_X4_answersByAll rfl rfl rfl (by decide +kernel) ⟨Nat.le_of_ble_eq_true rfl, Nat.le_of_ble_eq_true rfl⟩) hK hP hD hS hA hl.1 [17, 18, 19, 20, 21, 22, 23, 24, 25, 26, 27] (by decide) rfl rfl rfl 4 17 rfl rfl rfl rfl rfl (Nat.le_of_ble_eq_true rfl) dL_law_777 ⟨by show _ ≤ 660388; omega, by show _ ≤ 7114941; omega⟩ (fun H locs hP hD hS => ?_)
        refine lv_istore (lv' := [(6, .int x777.1), (5, .int x771.1), (0, .ref b), (1, .ref (ad 16)), (2, .ref (md 0)), (3, .ref oa), (4, .int v4_23)]) hx hb dL_law_780 hl (by decide) rfl (fun ls hl => ?_)
        refine lv_aload_n hx hb dL_law_782 rfl (lv_at hl 4 rfl) ?_
        refine clV_i (As := []) (rest := []) (wLL cI cZ cJ ad md oa size_23 rc_23 g_23 fs_23 st_23 ln_23 su_23 rr_23 cr_23 x771.2.1 x771.2.2.1 x771.2.2.2.1 x771.2.2.2.2.1 fa_23 tk_23 gr_23 se_23 sr_23 x777.2.1 msz_23 mrn_23 x777.2.2.1 mdf_23 mgu_23 mhs_23 mlv_23 mba_23 mgi_23 mfi_23 mle_23 mst_23 msu_23 x777.2.2.2.1 x777.2.2.2.2 mfa_23 mca_23 x771.2.2.2.2.2) ⟨hx, hb, hml, hown, hts⟩ (K_X4_thrown l D cI cZ md H.size x777.2.1 msz_23 mrn_23 x777.2.2.1 mdf_23 mgu_23 mhs_23 mlv_23 mba_23 mgi_23 mfi_23 mle_23 mst_23 msu_23 x777.2.2.2.1 x777.2.2.2.2 mfa_23 mca_23 _ rfl) (cwV 0 hts gL_law_X4_thrown rfl rfl rfl (by decide +kernel) ⟨Nat.le_of_ble_eq_true rfl, Nat.le_of_ble_eq_true rfl⟩) hK hP hD hS hA hl.1 [17, 18, 19, 20, 21, 22, 23, 24, 25, 26, 27] (by decide) rfl rfl rfl 4 17 rfl rfl rfl rfl rfl (Nat.le_of_ble_eq_true rfl) dL_law_783 ⟨by show _ ≤ 660388; omega, by show _ ≤ 7114941; omega⟩ (fun H locs hP hD hS => ?_)
        refine lv_iload hx hb dL_law_786 (lv_at hl 1 rfl) ?_
        refine lv_icmp_eq (tgt := 793) hx hb dL_law_788 (by decide) (fun c_788 => ?_) (fun c_788 => ?_)
        · have hf := ite_t c_788 hf
          refine lv_iload hx hb dL_law_793 (lv_at hl 1 rfl) ?_
          refine lv_if_ne (tgt := 810) hx hb dL_law_795 (by decide) (fun c_795 => ?_) (fun c_795 => ?_)
          · have hf := ite_f c_795 hf
            refine lv_goto (tgt := 964) hx hb dL_law_810 (by decide) ?_
            refine lv_iinc (v := (v4_23 + 3)) (lv' := [(4, .int (v4_23 + 3)), (6, .int x777.1), (5, .int x771.1), (0, .ref b), (1, .ref (ad 16)), (2, .ref (md 0)), (3, .ref oa)]) hx hb dL_law_964 hl (k := 6) rfl rfl (by decide) rfl (fun ls hl => ?_)
            refine lv_goto (tgt := 23) hx hb dL_law_967 (by decide) ?_
            refine W.widen (k := 660388 - 4 * n23) (n := 7114941 - 24 * n23) (by omega) (by omega) ?_
            exact ih23 (v4_23 + 3) size_23 rc_23 g_23 fs_23 st_23 ln_23 su_23 rr_23 cr_23 x771.2.1 x771.2.2.1 x771.2.2.2.1 x771.2.2.2.2.1 fa_23 tk_23 gr_23 se_23 sr_23 x777.2.1 msz_23 mrn_23 x777.2.2.1 mdf_23 mgu_23 mhs_23 mlv_23 mba_23 mgi_23 mfi_23 mle_23 mst_23 msu_23 x777.2.2.2.1 x777.2.2.2.2 mfa_23 mca_23 x771.2.2.2.2.2 (by omega) hf _ _ _ hP hD hS (lv_sub hl [3, 4, 5, 6, 0] rfl)
          · have hf := ite_t c_795 hf
            refine lv_aload_n hx hb dL_law_798 rfl (lv_at hl 5 rfl) ?_
            refine lv_iconst (v := 0) hx hb dL_law_799 (by decide) ?_
            refine va_lald hx hb hKJ hP 28 0 rfl rfl (show inR 0 1 from by decide) dL_law_800 ?_
            refine lv_iload hx hb dL_law_801 (lv_at hl 0 rfl) ?_
            refine lv_i2l (v := (x777.1 : Int32).toInt64) hx hb dL_law_803 rfl ?_
            refine W.lcmp hx hb dL_law_804 ?_
            refine lv_if_eq (tgt := 810) hx hb dL_law_805 (by decide) (fun c_805 => ?_) (fun c_805 => ?_)
            · have hf := ite_t c_805 hf
              refine lv_goto (tgt := 964) hx hb dL_law_810 (by decide) ?_
              refine lv_iinc (v := (v4_23 + 3)) (lv' := [(4, .int (v4_23 + 3)), (6, .int x777.1), (5, .int x771.1), (0, .ref b), (1, .ref (ad 16)), (2, .ref (md 0)), (3, .ref oa)]) hx hb dL_law_964 hl (k := 6) rfl rfl (by decide) rfl (fun ls hl => ?_)
              refine lv_goto (tgt := 23) hx hb dL_law_967 (by decide) ?_
              refine W.widen (k := 660388 - 4 * n23) (n := 7114941 - 24 * n23) (by omega) (by omega) ?_
              exact ih23 (v4_23 + 3) size_23 rc_23 g_23 fs_23 st_23 ln_23 su_23 rr_23 cr_23 x771.2.1 x771.2.2.1 x771.2.2.2.1 x771.2.2.2.2.1 fa_23 tk_23 gr_23 se_23 sr_23 x777.2.1 msz_23 mrn_23 x777.2.2.1 mdf_23 mgu_23 mhs_23 mlv_23 mba_23 mgi_23 mfi_23 mle_23 mst_23 msu_23 x777.2.2.2.1 x777.2.2.2.2 mfa_23 mca_23 x771.2.2.2.2.2 (by omega) hf _ _ _ hP hD hS (lv_sub hl [3, 4, 5, 6, 0] rfl)
            · have hf := ite_f c_805 hf
              refine lv_iconst (v := 0) hx hb dL_law_808 (by decide) ?_
              exact absurd (Option.some.inj hf) (by decide)
        · have hf := ite_f c_788 hf
          refine lv_iconst (v := 0) hx hb dL_law_791 (by decide) ?_
          exact absurd (Option.some.inj hf) (by decide)
      have hf := ite_f c_13 hf
      rcases Decidable.em (((xs ((v4_23 : Int32)).toNatClampNeg) &&& 31) = 14) with c_14 | c_14
      · have hf := ite_t c_14 hf
        refine lv_tableIn (off := 774) (tgt := 813) hx hb dL_law_39 (by rw [c_14]; decide) (by rw [c_14]; decide) (by rw [c_14]; rfl) (by decide) ?_
        refine lv_aload_n hx hb dL_law_813 rfl (lv_at hl 1 rfl) ?_
        refine lv_aload_n hx hb dL_law_814 rfl (lv_at hl 3 rfl) ?_
        obtain ⟨x815, hy815, hf⟩ := Option.bind_eq_some_iff.mp hf
        refine clSW_i (As := [.ref (ad 16), .ref oa]) (rest := []) (wLL cI cZ cJ ad md oa size_23 rc_23 x815.2.1 fs_23 st_23 ln_23 su_23 rr_23 cr_23 x815.2.2.1 x815.2.2.2.1 x815.2.2.2.2.1 x815.2.2.2.2.2.1 x815.2.2.2.2.2.2.1 tk_23 gr_23 se_23 sr_23 mth_23 msz_23 mrn_23 mmy_23 mdf_23 mgu_23 mhs_23 mlv_23 mba_23 mgi_23 mfi_23 mle_23 mst_23 msu_23 mtr_23 mdi_23 mfa_23 mca_23 x815.2.2.2.2.2.2.2) ⟨hx, hb, hml, hown, hts⟩ (K_L_mend l hst D cI cZ cJ ad oa H.size N size_23 rc_23 g_23 fs_23 st_23 ln_23 su_23 rr_23 cr_23 bc_23 bl_23 td_23 fi_23 fa_23 tk_23 gr_23 se_23 sr_23 ou_23 _ hy815) (vx_cwSW 2 hts gL_law_L_mend rfl rfl rfl (by decide +kernel) ⟨Nat.le_of_ble_eq_true rfl, Nat.le_of_ble_eq_true rfl⟩) hK hXS hKJ hNC hP hD hS hA hl.1 [0, 1, 2, 3, 4, 5, 6, 7, 8, 9, 10, 11, 12, 13, 14, 15, 16, 28] (by decide) rfl rfl rfl rfl rfl (Nat.le_of_ble_eq_true rfl) dL_law_815 ⟨by show _ ≤ 660388; omega, by show _ ≤ 7114941; omega⟩ (fun H locs hP hD hS => ?_)
        refine lv_istore (lv' := [(5, .int x815.1), (0, .ref b), (1, .ref (ad 16)), (2, .ref (md 0)), (3, .ref oa), (4, .int v4_23)]) hx hb dL_law_818 hl (by decide) rfl (fun ls hl => ?_)
        refine lv_aload_n hx hb dL_law_820 rfl (lv_at hl 3 rfl) ?_
        obtain ⟨x821, hy821, hf⟩ := Option.bind_eq_some_iff.mp hf
        refine clV_i (As := []) (rest := []) (wLL cI cZ cJ ad md oa size_23 rc_23 x815.2.1 fs_23 st_23 ln_23 su_23 rr_23 cr_23 x815.2.2.1 x815.2.2.2.1 x815.2.2.2.2.1 x815.2.2.2.2.2.1 x815.2.2.2.2.2.2.1 tk_23 gr_23 se_23 sr_23 x821.2.1 msz_23 mrn_23 x821.2.2.1 x821.2.2.2.1 x821.2.2.2.2.1 mhs_23 mlv_23 mba_23 x821.2.2.2.2.2.1 mfi_23 mle_23 mst_23 msu_23 x821.2.2.2.2.2.2.1 x821.2.2.2.2.2.2.2.1 x821.2.2.2.2.2.2.2.2 mca_23 x815.2.2.2.2.2.2.2) ⟨hx, hb, hml, hown, hts⟩ (K_X4_mend l D cI cZ md H.size N mth_23 msz_23 mrn_23 mmy_23 mdf_23 mgu_23 mhs_23 mlv_23 mba_23 mgi_23 mfi_23 mle_23 mst_23 msu_23 mtr_23 mdi_23 mfa_23 mca_23 _ hy821) (cwV 0 hts gL_law_X4_mend rfl rfl rfl (by decide +kernel) ⟨Nat.le_of_ble_eq_true rfl, Nat.le_of_ble_eq_true rfl⟩) hK hP hD hS hA hl.1 [17, 18, 19, 20, 21, 22, 23, 24, 25, 26, 27] (by decide) rfl rfl rfl 4 17 rfl rfl rfl rfl rfl (Nat.le_of_ble_eq_true rfl) dL_law_821 ⟨by show _ ≤ 660388; omega, by show _ ≤ 7114941; omega⟩ (fun H locs hP hD hS => ?_)
        refine lv_istore (lv' := [(6, .int x821.1), (5, .int x815.1), (0, .ref b), (1, .ref (ad 16)), (2, .ref (md 0)), (3, .ref oa), (4, .int v4_23)]) hx hb dL_law_824 hl (by decide) rfl (fun ls hl => ?_)
        refine lv_aload_n hx hb dL_law_826 rfl (lv_at hl 4 rfl) ?_
        refine clV_i (As := []) (rest := []) (wLL cI cZ cJ ad md oa size_23 rc_23 x815.2.1 fs_23 st_23 ln_23 su_23 rr_23 cr_23 x815.2.2.1 x815.2.2.2.1 x815.2.2.2.2.1 x815.2.2.2.2.2.1 x815.2.2.2.2.2.2.1 tk_23 gr_23 se_23 sr_23 x821.2.1 msz_23 mrn_23 x821.2.2.1 x821.2.2.2.1 x821.2.2.2.2.1 mhs_23 mlv_23 mba_23 x821.2.2.2.2.2.1 mfi_23 mle_23 mst_23 msu_23 x821.2.2.2.2.2.2.1 x821.2.2.2.2.2.2.2.1 x821.2.2.2.2.2.2.2.2 mca_23 x815.2.2.2.2.2.2.2) ⟨hx, hb, hml, hown, hts⟩ (K_X4_thrown l D cI cZ md H.size x821.2.1 msz_23 mrn_23 x821.2.2.1 x821.2.2.2.1 x821.2.2.2.2.1 mhs_23 mlv_23 mba_23 x821.2.2.2.2.2.1 mfi_23 mle_23 mst_23 msu_23 x821.2.2.2.2.2.2.1 x821.2.2.2.2.2.2.2.1 x821.2.2.2.2.2.2.2.2 mca_23 _ rfl) (cwV 0 hts gL_law_X4_thrown rfl rfl rfl (by decide +kernel) ⟨Nat.le_of_ble_eq_true rfl, Nat.le_of_ble_eq_true rfl⟩) hK hP hD hS hA hl.1 [17, 18, 19, 20, 21, 22, 23, 24, 25, 26, 27] (by decide) rfl rfl rfl 4 17 rfl rfl rfl rfl rfl (Nat.le_of_ble_eq_true rfl) dL_law_827 ⟨by show _ ≤ 660388; omega, by show _ ≤ 7114941; omega⟩ (fun H locs hP hD hS => ?_)
        refine lv_iload hx hb dL_law_830 (lv_at hl 1 rfl) ?_
        refine lv_icmp_eq (tgt := 837) hx hb dL_law_832 (by decide) (fun c_832 => ?_) (fun c_832 => ?_)
        · have hf := ite_t c_832 hf
          refine lv_iload hx hb dL_law_837 (lv_at hl 1 rfl) ?_
          refine lv_if_ne (tgt := 854) hx hb dL_law_839 (by decide) (fun c_839 => ?_) (fun c_839 => ?_)
          · have hf := ite_f c_839 hf
            refine lv_goto (tgt := 964) hx hb dL_law_854 (by decide) ?_
            refine lv_iinc (v := (v4_23 + 3)) (lv' := [(4, .int (v4_23 + 3)), (6, .int x821.1), (5, .int x815.1), (0, .ref b), (1, .ref (ad 16)), (2, .ref (md 0)), (3, .ref oa)]) hx hb dL_law_964 hl (k := 6) rfl rfl (by decide) rfl (fun ls hl => ?_)
            refine lv_goto (tgt := 23) hx hb dL_law_967 (by decide) ?_
            refine W.widen (k := 660388 - 4 * n23) (n := 7114941 - 24 * n23) (by omega) (by omega) ?_
            exact ih23 (v4_23 + 3) size_23 rc_23 x815.2.1 fs_23 st_23 ln_23 su_23 rr_23 cr_23 x815.2.2.1 x815.2.2.2.1 x815.2.2.2.2.1 x815.2.2.2.2.2.1 x815.2.2.2.2.2.2.1 tk_23 gr_23 se_23 sr_23 x821.2.1 msz_23 mrn_23 x821.2.2.1 x821.2.2.2.1 x821.2.2.2.2.1 mhs_23 mlv_23 mba_23 x821.2.2.2.2.2.1 mfi_23 mle_23 mst_23 msu_23 x821.2.2.2.2.2.2.1 x821.2.2.2.2.2.2.2.1 x821.2.2.2.2.2.2.2.2 mca_23 x815.2.2.2.2.2.2.2 (by omega) hf _ _ _ hP hD hS (lv_sub hl [3, 4, 5, 6, 0] rfl)
          · have hf := ite_t c_839 hf
            refine lv_aload_n hx hb dL_law_842 rfl (lv_at hl 5 rfl) ?_
            refine lv_iconst (v := 0) hx hb dL_law_843 (by decide) ?_
            refine va_lald hx hb hKJ hP 28 0 rfl rfl (show inR 0 1 from by decide) dL_law_844 ?_
            refine lv_iload hx hb dL_law_845 (lv_at hl 0 rfl) ?_
            refine lv_i2l (v := (x821.1 : Int32).toInt64) hx hb dL_law_847 rfl ?_
            refine W.lcmp hx hb dL_law_848 ?_
            refine lv_if_eq (tgt := 854) hx hb dL_law_849 (by decide) (fun c_849 => ?_) (fun c_849 => ?_)
            · have hf := ite_t c_849 hf
              refine lv_goto (tgt := 964) hx hb dL_law_854 (by decide) ?_
              refine lv_iinc (v := (v4_23 + 3)) (lv' := [(4, .int (v4_23 + 3)), (6, .int x821.1), (5, .int x815.1), (0, .ref b), (1, .ref (ad 16)), (2, .ref (md 0)), (3, .ref oa)]) hx hb dL_law_964 hl (k := 6) rfl rfl (by decide) rfl (fun ls hl => ?_)
              refine lv_goto (tgt := 23) hx hb dL_law_967 (by decide) ?_
              refine W.widen (k := 660388 - 4 * n23) (n := 7114941 - 24 * n23) (by omega) (by omega) ?_
              exact ih23 (v4_23 + 3) size_23 rc_23 x815.2.1 fs_23 st_23 ln_23 su_23 rr_23 cr_23 x815.2.2.1 x815.2.2.2.1 x815.2.2.2.2.1 x815.2.2.2.2.2.1 x815.2.2.2.2.2.2.1 tk_23 gr_23 se_23 sr_23 x821.2.1 msz_23 mrn_23 x821.2.2.1 x821.2.2.2.1 x821.2.2.2.2.1 mhs_23 mlv_23 mba_23 x821.2.2.2.2.2.1 mfi_23 mle_23 mst_23 msu_23 x821.2.2.2.2.2.2.1 x821.2.2.2.2.2.2.2.1 x821.2.2.2.2.2.2.2.2 mca_23 x815.2.2.2.2.2.2.2 (by omega) hf _ _ _ hP hD hS (lv_sub hl [3, 4, 5, 6, 0] rfl)
            · have hf := ite_f c_849 hf
              refine lv_iconst (v := 0) hx hb dL_law_852 (by decide) ?_
              exact absurd (Option.some.inj hf) (by decide)
        · have hf := ite_f c_832 hf
          refine lv_iconst (v := 0) hx hb dL_law_835 (by decide) ?_
          exact absurd (Option.some.inj hf) (by decide)
      have hf := ite_f c_14 hf
      rcases Decidable.em (((xs ((v4_23 : Int32)).toNatClampNeg) &&& 31) = 15) with c_15 | c_15
      · have hf := ite_t c_15 hf
        refine lv_tableIn (off := 818) (tgt := 857) hx hb dL_law_39 (by rw [c_15]; decide) (by rw [c_15]; decide) (by rw [c_15]; rfl) (by decide) ?_
        refine lv_aload_n hx hb dL_law_857 rfl (lv_at hl 1 rfl) ?_
        obtain ⟨x858, hy858, hf⟩ := Option.bind_eq_some_iff.mp hf
        refine clV_i (As := []) (rest := []) (wLL cI cZ cJ ad md oa size_23 rc_23 g_23 fs_23 st_23 ln_23 su_23 rr_23 cr_23 bc_23 bl_23 td_23 fi_23 fa_23 x858.2.1 x858.2.2.1 x858.2.2.2.1 x858.2.2.2.2 mth_23 msz_23 mrn_23 mmy_23 mdf_23 mgu_23 mhs_23 mlv_23 mba_23 mgi_23 mfi_23 mle_23 mst_23 msu_23 mtr_23 mdi_23 mfa_23 mca_23 ou_23) ⟨hx, hb, hml, hown, hts⟩ (K_X3_level l D cI cZ ad H.size N size_23 rc_23 g_23 fs_23 st_23 ln_23 su_23 rr_23 cr_23 bc_23 bl_23 td_23 fi_23 fa_23 tk_23 gr_23 se_23 sr_23 _ hy858) (cwV 0 hts gL_law_X3_level rfl rfl rfl (by decide +kernel) ⟨Nat.le_of_ble_eq_true rfl, Nat.le_of_ble_eq_true rfl⟩) hK hP hD hS hA hl.1 [0, 1, 2, 3, 4, 5, 6, 7, 8, 9, 10, 11, 12, 13, 14, 15, 16] (by decide) rfl rfl rfl 3 16 rfl rfl rfl rfl rfl (Nat.le_of_ble_eq_true rfl) dL_law_858 ⟨by show _ ≤ 660388; omega, by show _ ≤ 7114941; omega⟩ (fun H locs hP hD hS => ?_)
        refine lv_aload_n hx hb dL_law_861 rfl (lv_at hl 2 rfl) ?_
        obtain ⟨x862, hy862, hf⟩ := Option.bind_eq_some_iff.mp hf
        refine clV_i (As := []) (rest := [.int x858.1]) (wLL cI cZ cJ ad md oa size_23 rc_23 g_23 fs_23 st_23 ln_23 su_23 rr_23 cr_23 bc_23 bl_23 td_23 fi_23 fa_23 x858.2.1 x858.2.2.1 x858.2.2.2.1 x858.2.2.2.2 x862.2.1 msz_23 mrn_23 mmy_23 mdf_23 mgu_23 x862.2.2.1 x862.2.2.2.1 mba_23 mgi_23 mfi_23 mle_23 mst_23 msu_23 mtr_23 mdi_23 mfa_23 x862.2.2.2.2 ou_23) ⟨hx, hb, hml, hown, hts⟩ (K_X4_level l D cI cZ md H.size N mth_23 msz_23 mrn_23 mmy_23 mdf_23 mgu_23 mhs_23 mlv_23 mba_23 mgi_23 mfi_23 mle_23 mst_23 msu_23 mtr_23 mdi_23 mfa_23 mca_23 _ hy862) (cwV 0 hts gL_law_X4_level rfl rfl rfl (by decide +kernel) ⟨Nat.le_of_ble_eq_true rfl, Nat.le_of_ble_eq_true rfl⟩) hK hP hD hS hA hl.1 [17, 18, 19, 20, 21, 22, 23, 24, 25, 26, 27] (by decide) rfl rfl rfl 4 17 rfl rfl rfl rfl rfl (Nat.le_of_ble_eq_true rfl) dL_law_862 ⟨by show _ ≤ 660388; omega, by show _ ≤ 7114941; omega⟩ (fun H locs hP hD hS => ?_)
        refine lv_icmp_eq (tgt := 964) hx hb dL_law_865 (by decide) (fun c_865 => ?_) (fun c_865 => ?_)
        · have hf := ite_t c_865 hf
          refine lv_iinc (v := (v4_23 + 3)) (lv' := [(4, .int (v4_23 + 3)), (0, .ref b), (1, .ref (ad 16)), (2, .ref (md 0)), (3, .ref oa)]) hx hb dL_law_964 hl (k := 4) rfl rfl (by decide) rfl (fun ls hl => ?_)
          refine lv_goto (tgt := 23) hx hb dL_law_967 (by decide) ?_
          refine W.widen (k := 660388 - 4 * n23) (n := 7114941 - 24 * n23) (by omega) (by omega) ?_
          exact ih23 (v4_23 + 3) size_23 rc_23 g_23 fs_23 st_23 ln_23 su_23 rr_23 cr_23 bc_23 bl_23 td_23 fi_23 fa_23 x858.2.1 x858.2.2.1 x858.2.2.2.1 x858.2.2.2.2 x862.2.1 msz_23 mrn_23 mmy_23 mdf_23 mgu_23 x862.2.2.1 x862.2.2.2.1 mba_23 mgi_23 mfi_23 mle_23 mst_23 msu_23 mtr_23 mdi_23 mfa_23 x862.2.2.2.2 ou_23 (by omega) hf _ _ _ hP hD hS (lv_sub hl [1, 2, 3, 4, 0] rfl)
        · have hf := ite_f c_865 hf
          refine lv_iconst (v := 0) hx hb dL_law_868 (by decide) ?_
          exact absurd (Option.some.inj hf) (by decide)
      have hf := ite_f c_15 hf
      rcases Decidable.em (((xs ((v4_23 : Int32)).toNatClampNeg) &&& 31) = 16) with c_16 | c_16
      · have hf := ite_t c_16 hf
        refine lv_tableIn (off := 831) (tgt := 870) hx hb dL_law_39 (by rw [c_16]; decide) (by rw [c_16]; decide) (by rw [c_16]; rfl) (by decide) ?_
        refine lv_aload_n hx hb dL_law_870 rfl (lv_at hl 1 rfl) ?_
        refine lv_aload_n hx hb dL_law_871 rfl (lv_at hl 0 rfl) ?_
        refine lv_iload hx hb dL_law_872 (lv_at hl 4 rfl) ?_
        refine lv_iconst (v := 1) hx hb dL_law_874 (by decide) ?_
        refine lv_iadd hx hb dL_law_875 ?_
        obtain ⟨hz876, hf⟩ := gd_some hf
        refine va_sld hx hb hXs hbl hbA hS hz876 dL_law_876 ?_
        refine lv_aload_n hx hb dL_law_877 rfl (lv_at hl 0 rfl) ?_
        refine lv_iload hx hb dL_law_878 (lv_at hl 4 rfl) ?_
        refine lv_iconst (v := 2) hx hb dL_law_880 (by decide) ?_
        refine lv_iadd hx hb dL_law_881 ?_
        obtain ⟨hz882, hf⟩ := gd_some hf
        refine va_sld hx hb hXs hbl hbA hS hz882 dL_law_882 ?_
        refine lv_aload_n hx hb dL_law_883 rfl (lv_at hl 3 rfl) ?_
        obtain ⟨x884, hy884, hf⟩ := Option.bind_eq_some_iff.mp hf
        refine clSW_i (As := [.ref (ad 16), .int (xs (((v4_23 + 1) : Int32)).toNatClampNeg), .int (xs (((v4_23 + 2) : Int32)).toNatClampNeg), .ref oa]) (rest := []) (wLL cI cZ cJ ad md oa size_23 rc_23 g_23 fs_23 st_23 ln_23 su_23 rr_23 cr_23 bc_23 bl_23 td_23 fi_23 fa_23 x884.2.1 x884.2.2.1 x884.2.2.2.1 x884.2.2.2.2.1 mth_23 msz_23 mrn_23 mmy_23 mdf_23 mgu_23 mhs_23 mlv_23 mba_23 mgi_23 mfi_23 mle_23 mst_23 msu_23 mtr_23 mdi_23 mfa_23 mca_23 x884.2.2.2.2.2) ⟨hx, hb, hml, hown, hts⟩ (K_L_candidates l hst D cI cZ cJ ad oa H.size N size_23 rc_23 g_23 fs_23 st_23 ln_23 su_23 rr_23 cr_23 bc_23 bl_23 td_23 fi_23 fa_23 tk_23 gr_23 se_23 sr_23 ou_23 (xs (((v4_23 + 1) : Int32)).toNatClampNeg) (xs (((v4_23 + 2) : Int32)).toNatClampNeg) _ hy884) (vx_cwSW 4 hts gL_law_L_candidates rfl rfl rfl (by decide +kernel) ⟨Nat.le_of_ble_eq_true rfl, Nat.le_of_ble_eq_true rfl⟩) hK hXS hKJ hNC hP hD hS hA hl.1 [0, 1, 2, 3, 4, 5, 6, 7, 8, 9, 10, 11, 12, 13, 14, 15, 16, 28] (by decide) rfl rfl rfl rfl rfl (Nat.le_of_ble_eq_true rfl) dL_law_884 ⟨by show _ ≤ 660388; omega, by show _ ≤ 7114941; omega⟩ (fun H locs hP hD hS => ?_)
        refine lv_istore (lv' := [(5, .int x884.1), (0, .ref b), (1, .ref (ad 16)), (2, .ref (md 0)), (3, .ref oa), (4, .int v4_23)]) hx hb dL_law_887 hl (by decide) rfl (fun ls hl => ?_)
        refine lv_aload_n hx hb dL_law_889 rfl (lv_at hl 3 rfl) ?_
        refine lv_aload_n hx hb dL_law_890 rfl (lv_at hl 1 rfl) ?_
        refine lv_iload hx hb dL_law_891 (lv_at hl 5 rfl) ?_
        refine lv_iconst (v := 1) hx hb dL_law_893 (by decide) ?_
        refine lv_iadd hx hb dL_law_894 ?_
        obtain ⟨hz895, hf⟩ := gd_some hf
        refine va_sld hx hb hXs hbl hbA hS hz895 dL_law_895 ?_
        refine lv_aload_n hx hb dL_law_896 rfl (lv_at hl 1 rfl) ?_
        refine lv_iload hx hb dL_law_897 (lv_at hl 5 rfl) ?_
        refine lv_iconst (v := 2) hx hb dL_law_899 (by decide) ?_
        refine lv_iadd hx hb dL_law_900 ?_
        obtain ⟨hz901, hf⟩ := gd_some hf
        refine va_sld hx hb hXs hbl hbA hS hz901 dL_law_901 ?_
        obtain ⟨x902, hy902, hf⟩ := Option.bind_eq_some_iff.mp hf
        refine clV_i (As := [.int (xs (((v4_23 + 1) : Int32)).toNatClampNeg), .int (xs (((v4_23 + 2) : Int32)).toNatClampNeg)]) (rest := []) (wLL cI cZ cJ ad md oa size_23 rc_23 g_23 fs_23 st_23 ln_23 su_23 rr_23 cr_23 bc_23 bl_23 td_23 fi_23 fa_23 x884.2.1 x884.2.2.1 x884.2.2.2.1 x884.2.2.2.2.1 x902.2.1 msz_23 mrn_23 mmy_23 mdf_23 mgu_23 x902.2.2.1 x902.2.2.2.1 mba_23 mgi_23 mfi_23 mle_23 mst_23 msu_23 mtr_23 mdi_23 mfa_23 x902.2.2.2.2 x884.2.2.2.2.2) ⟨hx, hb, hml, hown, hts⟩ (K_X4_candidates l D cI cZ md H.size N mth_23 msz_23 mrn_23 mmy_23 mdf_23 mgu_23 mhs_23 mlv_23 mba_23 mgi_23 mfi_23 mle_23 mst_23 msu_23 mtr_23 mdi_23 mfa_23 mca_23 (xs (((v4_23 + 1) : Int32)).toNatClampNeg) (xs (((v4_23 + 2) : Int32)).toNatClampNeg) _ hy902) (cwV 2 hts gL_law_X4_candidates rfl rfl rfl (by decide +kernel) ⟨Nat.le_of_ble_eq_true rfl, Nat.le_of_ble_eq_true rfl⟩) hK hP hD hS hA hl.1 [17, 18, 19, 20, 21, 22, 23, 24, 25, 26, 27] (by decide) rfl rfl rfl 4 17 rfl rfl rfl rfl rfl (Nat.le_of_ble_eq_true rfl) dL_law_902 ⟨by show _ ≤ 660388; omega, by show _ ≤ 7114941; omega⟩ (fun H locs hP hD hS => ?_)
        refine lv_istore (lv' := [(6, .int x902.1), (5, .int x884.1), (0, .ref b), (1, .ref (ad 16)), (2, .ref (md 0)), (3, .ref oa), (4, .int v4_23)]) hx hb dL_law_905 hl (by decide) rfl (fun ls hl => ?_)
        refine lv_aload_n hx hb dL_law_907 rfl (lv_at hl 4 rfl) ?_
        refine clV_i (As := []) (rest := []) (wLL cI cZ cJ ad md oa size_23 rc_23 g_23 fs_23 st_23 ln_23 su_23 rr_23 cr_23 bc_23 bl_23 td_23 fi_23 fa_23 x884.2.1 x884.2.2.1 x884.2.2.2.1 x884.2.2.2.2.1 x902.2.1 msz_23 mrn_23 mmy_23 mdf_23 mgu_23 x902.2.2.1 x902.2.2.2.1 mba_23 mgi_23 mfi_23 mle_23 mst_23 msu_23 mtr_23 mdi_23 mfa_23 x902.2.2.2.2 x884.2.2.2.2.2) ⟨hx, hb, hml, hown, hts⟩ (K_X4_thrown l D cI cZ md H.size x902.2.1 msz_23 mrn_23 mmy_23 mdf_23 mgu_23 x902.2.2.1 x902.2.2.2.1 mba_23 mgi_23 mfi_23 mle_23 mst_23 msu_23 mtr_23 mdi_23 mfa_23 x902.2.2.2.2 _ rfl) (cwV 0 hts gL_law_X4_thrown rfl rfl rfl (by decide +kernel) ⟨Nat.le_of_ble_eq_true rfl, Nat.le_of_ble_eq_true rfl⟩) hK hP hD hS hA hl.1 [17, 18, 19, 20, 21, 22, 23, 24, 25, 26, 27] (by decide) rfl rfl rfl 4 17 rfl rfl rfl rfl rfl (Nat.le_of_ble_eq_true rfl) dL_law_908 ⟨by show _ ≤ 660388; omega, by show _ ≤ 7114941; omega⟩ (fun H locs hP hD hS => ?_)
        refine lv_iload hx hb dL_law_911 (lv_at hl 1 rfl) ?_
        refine lv_icmp_eq (tgt := 918) hx hb dL_law_913 (by decide) (fun c_913 => ?_) (fun c_913 => ?_)
        · have hf := ite_t c_913 hf
          refine lv_iload hx hb dL_law_918 (lv_at hl 1 rfl) ?_
          refine lv_if_ne (tgt := 935) hx hb dL_law_920 (by decide) (fun c_920 => ?_) (fun c_920 => ?_)
          · have hf := ite_f c_920 hf
            refine lv_goto (tgt := 964) hx hb dL_law_935 (by decide) ?_
            refine lv_iinc (v := (v4_23 + 3)) (lv' := [(4, .int (v4_23 + 3)), (6, .int x902.1), (5, .int x884.1), (0, .ref b), (1, .ref (ad 16)), (2, .ref (md 0)), (3, .ref oa)]) hx hb dL_law_964 hl (k := 6) rfl rfl (by decide) rfl (fun ls hl => ?_)
            refine lv_goto (tgt := 23) hx hb dL_law_967 (by decide) ?_
            refine W.widen (k := 660388 - 4 * n23) (n := 7114941 - 24 * n23) (by omega) (by omega) ?_
            exact ih23 (v4_23 + 3) size_23 rc_23 g_23 fs_23 st_23 ln_23 su_23 rr_23 cr_23 bc_23 bl_23 td_23 fi_23 fa_23 x884.2.1 x884.2.2.1 x884.2.2.2.1 x884.2.2.2.2.1 x902.2.1 msz_23 mrn_23 mmy_23 mdf_23 mgu_23 x902.2.2.1 x902.2.2.2.1 mba_23 mgi_23 mfi_23 mle_23 mst_23 msu_23 mtr_23 mdi_23 mfa_23 x902.2.2.2.2 x884.2.2.2.2.2 (by omega) hf _ _ _ hP hD hS (lv_sub hl [3, 4, 5, 6, 0] rfl)
          · have hf := ite_t c_920 hf
            refine lv_aload_n hx hb dL_law_923 rfl (lv_at hl 5 rfl) ?_
            refine lv_iconst (v := 0) hx hb dL_law_924 (by decide) ?_
            refine va_lald hx hb hKJ hP 28 0 rfl rfl (show inR 0 1 from by decide) dL_law_925 ?_
            refine lv_iload hx hb dL_law_926 (lv_at hl 0 rfl) ?_
            refine lv_i2l (v := (x902.1 : Int32).toInt64) hx hb dL_law_928 rfl ?_
            refine W.lcmp hx hb dL_law_929 ?_
            refine lv_if_eq (tgt := 935) hx hb dL_law_930 (by decide) (fun c_930 => ?_) (fun c_930 => ?_)
            · have hf := ite_t c_930 hf
              refine lv_goto (tgt := 964) hx hb dL_law_935 (by decide) ?_
              refine lv_iinc (v := (v4_23 + 3)) (lv' := [(4, .int (v4_23 + 3)), (6, .int x902.1), (5, .int x884.1), (0, .ref b), (1, .ref (ad 16)), (2, .ref (md 0)), (3, .ref oa)]) hx hb dL_law_964 hl (k := 6) rfl rfl (by decide) rfl (fun ls hl => ?_)
              refine lv_goto (tgt := 23) hx hb dL_law_967 (by decide) ?_
              refine W.widen (k := 660388 - 4 * n23) (n := 7114941 - 24 * n23) (by omega) (by omega) ?_
              exact ih23 (v4_23 + 3) size_23 rc_23 g_23 fs_23 st_23 ln_23 su_23 rr_23 cr_23 bc_23 bl_23 td_23 fi_23 fa_23 x884.2.1 x884.2.2.1 x884.2.2.2.1 x884.2.2.2.2.1 x902.2.1 msz_23 mrn_23 mmy_23 mdf_23 mgu_23 x902.2.2.1 x902.2.2.2.1 mba_23 mgi_23 mfi_23 mle_23 mst_23 msu_23 mtr_23 mdi_23 mfa_23 x902.2.2.2.2 x884.2.2.2.2.2 (by omega) hf _ _ _ hP hD hS (lv_sub hl [3, 4, 5, 6, 0] rfl)
            · have hf := ite_f c_930 hf
              refine lv_iconst (v := 0) hx hb dL_law_933 (by decide) ?_
              exact absurd (Option.some.inj hf) (by decide)
        · have hf := ite_f c_913 hf
          refine lv_iconst (v := 0) hx hb dL_law_916 (by decide) ?_
          exact absurd (Option.some.inj hf) (by decide)
      have hf := ite_f c_16 hf
      rcases Decidable.em (((xs ((v4_23 : Int32)).toNatClampNeg) &&& 31) = 17) with c_17 | c_17
      · have hf := ite_t c_17 hf
        refine lv_tableIn (off := 899) (tgt := 938) hx hb dL_law_39 (by rw [c_17]; decide) (by rw [c_17]; decide) (by rw [c_17]; rfl) (by decide) ?_
        refine lv_aload_n hx hb dL_law_938 rfl (lv_at hl 1 rfl) ?_
        obtain ⟨x939, hy939, hf⟩ := Option.bind_eq_some_iff.mp hf
        refine clV_i (As := []) (rest := []) (wLL cI cZ cJ ad md oa size_23 rc_23 g_23 fs_23 st_23 ln_23 su_23 rr_23 cr_23 bc_23 bl_23 td_23 fi_23 fa_23 x939.2.1 x939.2.2.1 x939.2.2.2.1 x939.2.2.2.2 mth_23 msz_23 mrn_23 mmy_23 mdf_23 mgu_23 mhs_23 mlv_23 mba_23 mgi_23 mfi_23 mle_23 mst_23 msu_23 mtr_23 mdi_23 mfa_23 mca_23 ou_23) ⟨hx, hb, hml, hown, hts⟩ (K_X3_hint l D cI cZ ad H.size N size_23 rc_23 g_23 fs_23 st_23 ln_23 su_23 rr_23 cr_23 bc_23 bl_23 td_23 fi_23 fa_23 tk_23 gr_23 se_23 sr_23 _ hy939) (cwV 0 hts gL_law_X3_hint rfl rfl rfl (by decide +kernel) ⟨Nat.le_of_ble_eq_true rfl, Nat.le_of_ble_eq_true rfl⟩) hK hP hD hS hA hl.1 [0, 1, 2, 3, 4, 5, 6, 7, 8, 9, 10, 11, 12, 13, 14, 15, 16] (by decide) rfl rfl rfl 3 16 rfl rfl rfl rfl rfl (Nat.le_of_ble_eq_true rfl) dL_law_939 ⟨by show _ ≤ 660388; omega, by show _ ≤ 7114941; omega⟩ (fun H locs hP hD hS => ?_)
        refine lv_aload_n hx hb dL_law_942 rfl (lv_at hl 2 rfl) ?_
        obtain ⟨x943, hy943, hf⟩ := Option.bind_eq_some_iff.mp hf
        refine clV_i (As := []) (rest := [.int x939.1]) (wLL cI cZ cJ ad md oa size_23 rc_23 g_23 fs_23 st_23 ln_23 su_23 rr_23 cr_23 bc_23 bl_23 td_23 fi_23 fa_23 x939.2.1 x939.2.2.1 x939.2.2.2.1 x939.2.2.2.2 x943.2.1 msz_23 mrn_23 mmy_23 mdf_23 mgu_23 x943.2.2.1 x943.2.2.2.1 mba_23 mgi_23 mfi_23 mle_23 mst_23 msu_23 mtr_23 mdi_23 mfa_23 x943.2.2.2.2 ou_23) ⟨hx, hb, hml, hown, hts⟩ (K_X4_hint l D cI cZ md H.size N mth_23 msz_23 mrn_23 mmy_23 mdf_23 mgu_23 mhs_23 mlv_23 mba_23 mgi_23 mfi_23 mle_23 mst_23 msu_23 mtr_23 mdi_23 mfa_23 mca_23 _ hy943) (cwV 0 hts gL_law_X4_hint rfl rfl rfl (by decide +kernel) ⟨Nat.le_of_ble_eq_true rfl, Nat.le_of_ble_eq_true rfl⟩) hK hP hD hS hA hl.1 [17, 18, 19, 20, 21, 22, 23, 24, 25, 26, 27] (by decide) rfl rfl rfl 4 17 rfl rfl rfl rfl rfl (Nat.le_of_ble_eq_true rfl) dL_law_943 ⟨by show _ ≤ 660388; omega, by show _ ≤ 7114941; omega⟩ (fun H locs hP hD hS => ?_)
        refine lv_icmp_eq (tgt := 964) hx hb dL_law_946 (by decide) (fun c_946 => ?_) (fun c_946 => ?_)
        · have hf := ite_t c_946 hf
          refine lv_iinc (v := (v4_23 + 3)) (lv' := [(4, .int (v4_23 + 3)), (0, .ref b), (1, .ref (ad 16)), (2, .ref (md 0)), (3, .ref oa)]) hx hb dL_law_964 hl (k := 4) rfl rfl (by decide) rfl (fun ls hl => ?_)
          refine lv_goto (tgt := 23) hx hb dL_law_967 (by decide) ?_
          refine W.widen (k := 660388 - 4 * n23) (n := 7114941 - 24 * n23) (by omega) (by omega) ?_
          exact ih23 (v4_23 + 3) size_23 rc_23 g_23 fs_23 st_23 ln_23 su_23 rr_23 cr_23 bc_23 bl_23 td_23 fi_23 fa_23 x939.2.1 x939.2.2.1 x939.2.2.2.1 x939.2.2.2.2 x943.2.1 msz_23 mrn_23 mmy_23 mdf_23 mgu_23 x943.2.2.1 x943.2.2.2.1 mba_23 mgi_23 mfi_23 mle_23 mst_23 msu_23 mtr_23 mdi_23 mfa_23 x943.2.2.2.2 ou_23 (by omega) hf _ _ _ hP hD hS (lv_sub hl [1, 2, 3, 4, 0] rfl)
        · have hf := ite_f c_946 hf
          refine lv_iconst (v := 0) hx hb dL_law_949 (by decide) ?_
          exact absurd (Option.some.inj hf) (by decide)
      have hf := ite_f c_17 hf
      rcases Decidable.em (((xs ((v4_23 : Int32)).toNatClampNeg) &&& 31) = 18) with c_18 | c_18
      · have hf := ite_t c_18 hf
        refine lv_tableIn (off := 912) (tgt := 951) hx hb dL_law_39 (by rw [c_18]; decide) (by rw [c_18]; decide) (by rw [c_18]; rfl) (by decide) ?_
        refine lv_aload_n hx hb dL_law_951 rfl (lv_at hl 1 rfl) ?_
        obtain ⟨x952, hy952, hf⟩ := Option.bind_eq_some_iff.mp hf
        refine clV_i (As := []) (rest := []) (wLL cI cZ cJ ad md oa size_23 rc_23 g_23 fs_23 st_23 ln_23 su_23 rr_23 cr_23 bc_23 bl_23 td_23 fi_23 fa_23 x952.2.1 x952.2.2.1 x952.2.2.2.1 x952.2.2.2.2 mth_23 msz_23 mrn_23 mmy_23 mdf_23 mgu_23 mhs_23 mlv_23 mba_23 mgi_23 mfi_23 mle_23 mst_23 msu_23 mtr_23 mdi_23 mfa_23 mca_23 ou_23) ⟨hx, hb, hml, hown, hts⟩ (K_X3_hintRules l D cI cZ ad H.size N size_23 rc_23 g_23 fs_23 st_23 ln_23 su_23 rr_23 cr_23 bc_23 bl_23 td_23 fi_23 fa_23 tk_23 gr_23 se_23 sr_23 _ hy952) (cwV 0 hts gL_law_X3_hintRules rfl rfl rfl (by decide +kernel) ⟨Nat.le_of_ble_eq_true rfl, Nat.le_of_ble_eq_true rfl⟩) hK hP hD hS hA hl.1 [0, 1, 2, 3, 4, 5, 6, 7, 8, 9, 10, 11, 12, 13, 14, 15, 16] (by decide) rfl rfl rfl 3 16 rfl rfl rfl rfl rfl (Nat.le_of_ble_eq_true rfl) dL_law_952 ⟨by show _ ≤ 660388; omega, by show _ ≤ 7114941; omega⟩ (fun H locs hP hD hS => ?_)
        refine lv_aload_n hx hb dL_law_955 rfl (lv_at hl 2 rfl) ?_
        obtain ⟨x956, hy956, hf⟩ := Option.bind_eq_some_iff.mp hf
        refine clV_i (As := []) (rest := [.int x952.1]) (wLL cI cZ cJ ad md oa size_23 rc_23 g_23 fs_23 st_23 ln_23 su_23 rr_23 cr_23 bc_23 bl_23 td_23 fi_23 fa_23 x952.2.1 x952.2.2.1 x952.2.2.2.1 x952.2.2.2.2 x956.2.1 msz_23 mrn_23 mmy_23 mdf_23 mgu_23 x956.2.2.1 x956.2.2.2.1 mba_23 mgi_23 mfi_23 mle_23 mst_23 msu_23 mtr_23 mdi_23 mfa_23 x956.2.2.2.2 ou_23) ⟨hx, hb, hml, hown, hts⟩ (K_X4_hintRules l D cI cZ md H.size N mth_23 msz_23 mrn_23 mmy_23 mdf_23 mgu_23 mhs_23 mlv_23 mba_23 mgi_23 mfi_23 mle_23 mst_23 msu_23 mtr_23 mdi_23 mfa_23 mca_23 _ hy956) (cwV 0 hts gL_law_X4_hintRules rfl rfl rfl (by decide +kernel) ⟨Nat.le_of_ble_eq_true rfl, Nat.le_of_ble_eq_true rfl⟩) hK hP hD hS hA hl.1 [17, 18, 19, 20, 21, 22, 23, 24, 25, 26, 27] (by decide) rfl rfl rfl 4 17 rfl rfl rfl rfl rfl (Nat.le_of_ble_eq_true rfl) dL_law_956 ⟨by show _ ≤ 660388; omega, by show _ ≤ 7114941; omega⟩ (fun H locs hP hD hS => ?_)
        refine lv_icmp_eq (tgt := 964) hx hb dL_law_959 (by decide) (fun c_959 => ?_) (fun c_959 => ?_)
        · have hf := ite_t c_959 hf
          refine lv_iinc (v := (v4_23 + 3)) (lv' := [(4, .int (v4_23 + 3)), (0, .ref b), (1, .ref (ad 16)), (2, .ref (md 0)), (3, .ref oa)]) hx hb dL_law_964 hl (k := 4) rfl rfl (by decide) rfl (fun ls hl => ?_)
          refine lv_goto (tgt := 23) hx hb dL_law_967 (by decide) ?_
          refine W.widen (k := 660388 - 4 * n23) (n := 7114941 - 24 * n23) (by omega) (by omega) ?_
          exact ih23 (v4_23 + 3) size_23 rc_23 g_23 fs_23 st_23 ln_23 su_23 rr_23 cr_23 bc_23 bl_23 td_23 fi_23 fa_23 x952.2.1 x952.2.2.1 x952.2.2.2.1 x952.2.2.2.2 x956.2.1 msz_23 mrn_23 mmy_23 mdf_23 mgu_23 x956.2.2.1 x956.2.2.2.1 mba_23 mgi_23 mfi_23 mle_23 mst_23 msu_23 mtr_23 mdi_23 mfa_23 x956.2.2.2.2 ou_23 (by omega) hf _ _ _ hP hD hS (lv_sub hl [1, 2, 3, 4, 0] rfl)
        · have hf := ite_f c_959 hf
          refine lv_iconst (v := 0) hx hb dL_law_962 (by decide) ?_
          exact absurd (Option.some.inj hf) (by decide)
      have hf := ite_f c_18 hf
      have hcs : ∀ k : Nat, k < 19 → ¬ ((xs ((v4_23 : Int32)).toNatClampNeg) &&& 31) = Int32.ofNat k := by
        intro k hk
        rcases (show k = 0 ∨ k = 1 ∨ k = 2 ∨ k = 3 ∨ k = 4 ∨ k = 5 ∨ k = 6 ∨ k = 7 ∨ k = 8 ∨ k = 9 ∨ k = 10 ∨ k = 11 ∨ k = 12 ∨ k = 13 ∨ k = 14 ∨ k = 15 ∨ k = 16 ∨ k = 17 ∨ k = 18 by omega) with rfl | rfl | rfl | rfl | rfl | rfl | rfl | rfl | rfl | rfl | rfl | rfl | rfl | rfl | rfl | rfl | rfl | rfl | rfl
        · exact c_0
        · exact c_1
        · exact c_2
        · exact c_3
        · exact c_4
        · exact c_5
        · exact c_6
        · exact c_7
        · exact c_8
        · exact c_9
        · exact c_10
        · exact c_11
        · exact c_12
        · exact c_13
        · exact c_14
        · exact c_15
        · exact c_16
        · exact c_17
        · exact c_18
      refine lv_tableOut (tgt := 964) hx hb dL_law_39 (tbl_out hcs) (by decide) ?_
      refine lv_iinc (v := (v4_23 + 3)) (lv' := [(4, .int (v4_23 + 3)), (0, .ref b), (1, .ref (ad 16)), (2, .ref (md 0)), (3, .ref oa)]) hx hb dL_law_964 hl (k := 4) rfl rfl (by decide) rfl (fun ls hl => ?_)
      refine lv_goto (tgt := 23) hx hb dL_law_967 (by decide) ?_
      refine W.widen (k := 660388 - 4 * n23) (n := 7114941 - 24 * n23) (by omega) (by omega) ?_
      exact ih23 (v4_23 + 3) size_23 rc_23 g_23 fs_23 st_23 ln_23 su_23 rr_23 cr_23 bc_23 bl_23 td_23 fi_23 fa_23 tk_23 gr_23 se_23 sr_23 mth_23 msz_23 mrn_23 mmy_23 mdf_23 mgu_23 mhs_23 mlv_23 mba_23 mgi_23 mfi_23 mle_23 mst_23 msu_23 mtr_23 mdi_23 mfa_23 mca_23 ou_23 (by omega) hf _ _ _ hP hD hS (lv_sub hl [1, 2, 3, 4, 0] rfl)
