def m_X0_init : Option (Int32 × Ar) :=
  some ((0 : Int32), (fun _ => (0 : Int32)))
def m_X3_init : Option (Int32 × Int32 × Int32 × Int32 × Ar × Ar) :=
  ob1 (m_J7_fill_53178 12 (10 : Int32) (fun _ => (0 : Int32))) (fun n_2_5 => some ((0 : Int32), (0 : Int32), (0 : Int32), (0 : Int32), n_2_5, (fun _ => (0 : Int32))))
def m_X1_init : Option (Int32 × Int32 × Int32 × Int32 × Int32 × Int32 × Ar × Ar × Ar) :=
  ob6 (m_X3_init) (fun n_6 n_7 n_8 n_9 n_10 n_11 => ob1 (m_J7_fill_53178 8 (8 : Int32) (fun _ => (0 : Int32))) (fun n_16_17 => some ((0 : Int32), (1023 : Int32), n_6, n_7, n_8, n_9, n_10, n_11, n_16_17)))
def m_X2_init : Option (Int32 × Int32 × Int32 × Int32 × Int32 × Int32 × Int32 × Int32 × Ar × Ar) :=
  ob6 (m_X3_init) (fun n_6 n_7 n_8 n_9 n_10 n_11 => some ((0 : Int32), (0 : Int32), (0 : Int32), (0 : Int32), n_6, n_7, n_8, n_9, n_10, n_11))
def m_X4_init : Option (Int32 × Ar × Int32 × Int32 × Int32 × Int32 × Int32 × Int32 × Ar × Ar × Ar × Int32 × Int32 × Int32 × Int32 × Int32 × Int32 × Int32 × Int32 × Ar × Ar × (Nat → Option Nat)) :=
  ob2 (m_X0_init) (fun n_3 n_4 => ob9 (m_X1_init) (fun n_10 n_11 n_12 n_13 n_14 n_15 n_16 n_17 n_18 => ob10 (m_X2_init) (fun n_29 n_30 n_31 n_32 n_33 n_34 n_35 n_36 n_37 n_38 => some (n_3, n_4, n_10, n_11, n_12, n_13, n_14, n_15, n_16, n_17, n_18, n_29, n_30, n_31, n_32, n_33, n_34, n_35, n_36, n_37, n_38, (fun _ => none)))))
def b_X5_init_98 (k_98 : Int32 → Ar → Option (Int32 × Int32 × Int32 × Int32 × Int32 × Int32 × Int32 × Ar × Ar × Ar × Ar × Ar × Ar × Ar × Ar × Ar)) (th : Int32) (si : Int32) (sn : Int32) (re : Int32) (ac : Int32) (fa : Int32) (fw : Int32) (n_2 : Ar) (n_4 : Ar) (n_6 : Ar) (n_10 : Ar) (n_12 : Ar) (n_14 : Ar) (n_16 : Ar) (n_18 : Ar) (v1 : Int32) (n_8 : Ar) : Option (Int32 × Int32 × Int32 × Int32 × Int32 × Int32 × Int32 × Ar × Ar × Ar × Ar × Ar × Ar × Ar × Ar × Ar) :=
  if (8 : Int32) ≤ v1 then (some (th, si, sn, re, ac, fa, fw, n_2, n_4, n_6, n_8, n_10, n_12, n_14, n_16, n_18)) else (gd (inb v1 8) (k_98 (v1 + 1) (upd n_8 (Int32.toNatClampNeg v1) (8 : Int32))))
def L_X5_init_98 (th : Int32) (si : Int32) (sn : Int32) (re : Int32) (ac : Int32) (fa : Int32) (fw : Int32) (n_2 : Ar) (n_4 : Ar) (n_6 : Ar) (n_10 : Ar) (n_12 : Ar) (n_14 : Ar) (n_16 : Ar) (n_18 : Ar) : Nat → Int32 → Ar → Option (Int32 × Int32 × Int32 × Int32 × Int32 × Int32 × Int32 × Ar × Ar × Ar × Ar × Ar × Ar × Ar × Ar × Ar)
  | 0 => fun _ _ => none
  | n + 1 => fun v1 n_8 => b_X5_init_98  (L_X5_init_98  th si sn re ac fa fw n_2 n_4 n_6 n_10 n_12 n_14 n_16 n_18 n) th si sn re ac fa fw n_2 n_4 n_6 n_10 n_12 n_14 n_16 n_18 v1 n_8
def b_X5_init_76 (k_76 : Int32 → Ar → Option (Int32 × Int32 × Int32 × Int32 × Int32 × Int32 × Int32 × Ar × Ar × Ar × Ar × Ar × Ar × Ar × Ar × Ar)) (th : Int32) (si : Int32) (sn : Int32) (re : Int32) (ac : Int32) (fa : Int32) (fw : Int32) (n_4 : Ar) (n_6 : Ar) (n_8 : Ar) (n_10 : Ar) (n_12 : Ar) (n_14 : Ar) (n_16 : Ar) (n_18 : Ar) (v1 : Int32) (n_2 : Ar) : Option (Int32 × Int32 × Int32 × Int32 × Int32 × Int32 × Int32 × Ar × Ar × Ar × Ar × Ar × Ar × Ar × Ar × Ar) :=
  if (12 : Int32) ≤ v1 then (L_X5_init_98 th si sn re ac fa fw n_2 n_4 n_6 n_10 n_12 n_14 n_16 n_18 fu (0 : Int32) n_8) else (gd (inb v1 15) (k_76 (v1 + 1) (upd n_2 (Int32.toNatClampNeg v1) (10 : Int32))))
def L_X5_init_76 (th : Int32) (si : Int32) (sn : Int32) (re : Int32) (ac : Int32) (fa : Int32) (fw : Int32) (n_4 : Ar) (n_6 : Ar) (n_8 : Ar) (n_10 : Ar) (n_12 : Ar) (n_14 : Ar) (n_16 : Ar) (n_18 : Ar) : Nat → Int32 → Ar → Option (Int32 × Int32 × Int32 × Int32 × Int32 × Int32 × Int32 × Ar × Ar × Ar × Ar × Ar × Ar × Ar × Ar × Ar)
  | 0 => fun _ _ => none
  | n + 1 => fun v1 n_2 => b_X5_init_76  (L_X5_init_76  th si sn re ac fa fw n_4 n_6 n_8 n_10 n_12 n_14 n_16 n_18 n) th si sn re ac fa fw n_4 n_6 n_8 n_10 n_12 n_14 n_16 n_18 v1 n_2
def m_X5_init : Option (Int32 × Int32 × Int32 × Int32 × Int32 × Int32 × Int32 × Ar × Ar × Ar × Ar × Ar × Ar × Ar × Ar × Ar) :=
  L_X5_init_76 (0 : Int32) (0 : Int32) (0 : Int32) (0 : Int32) (0 : Int32) (0 : Int32) (0 : Int32) (fun _ => (0 : Int32)) (fun _ => (0 : Int32)) (fun _ => (0 : Int32)) (fun _ => (0 : Int32)) (fun _ => (0 : Int32)) (fun _ => (0 : Int32)) (fun _ => (0 : Int32)) (fun _ => (0 : Int32)) fu (0 : Int32) (fun _ => (0 : Int32))
def m_X4_imageO (v1 : Int32) : Int32 :=
  (-2 : Int32)
def m_X4_imageS (v1 : Int32) (si : Int32) (ft : Int32) (th : Int32) (he : Int32) (ma : Int32) (ro : Int32) (fi : Ar) (to : Ar) (ne : Ar) (fii : Ar) (toi : Ar) (nei : Ar) : Option (Int32 × Int32 × Int32 × Int32 × Int32 × Int32 × Int32 × Ar × Ar × Ar) :=
  gd (inb v1 2) (ob9 (m_X1_copyFrom fii toi nei si ft th he ma ro fi to ne) (fun sii_3 fti_4 thi_5 hei_6 mai_7 roi_8 fii_9 toi_10 nei_11 => some ((1 : Int32), sii_3, fti_4, thi_5, hei_6, mai_7, roi_8, fii_9, toi_10, nei_11)))
def m_X4_imageN (v1 : Int32) (si : Int32) (ft : Int32) (th : Int32) (he : Int32) (ma : Int32) (ro : Int32) (fi : Ar) (to : Ar) (ne : Ar) : Option (Int32 × Int32 × Int32 × Int32 × Int32 × Int32 × Int32 × Ar × Ar × Ar) :=
  gd (inb v1 2) (ob9 (m_X1_init) (fun n_6 n_7 n_8 n_9 n_10 n_11 n_12 n_13 n_14 => ob9 (m_X1_copyFrom n_12 n_13 n_14 si ft th he ma ro fi to ne) (fun n_6_20 n_7_21 n_8_22 n_9_23 n_10_24 n_11_25 n_12_26 n_13_27 n_14_28 => some ((1 : Int32), n_6_20, n_7_21, n_8_22, n_9_23, n_10_24, n_11_25, n_12_26, n_13_27, n_14_28))))
def m_X4_restoreO (v1 : Int32) : Int32 :=
  (-2 : Int32)
def m_X4_restoreS (v1 : Int32) (fi : Ar) (to : Ar) (ne : Ar) (sii : Int32) (fti : Int32) (thi : Int32) (hei : Int32) (mai : Int32) (roi : Int32) (fii : Ar) (toi : Ar) (nei : Ar) : Option (Int32 × Int32 × Int32 × Int32 × Int32 × Int32 × Int32 × Ar × Ar × Ar) :=
  gd (inb v1 2) (ob9 (m_X1_copyFrom fi to ne sii fti thi hei mai roi fii toi nei) (fun si_3 ft_4 th_5 he_6 ma_7 ro_8 fi_9 to_10 ne_11 => some ((1 : Int32), si_3, ft_4, th_5, he_6, ma_7, ro_8, fi_9, to_10, ne_11)))
def m_X4_restoreN (v1 : Int32) : Option (Int32) :=
  gd (inb v1 2) (some (-3 : Int32))
