/-! mirrors of the methods, printed by wip/gen -/
def m_X0_write (v1 : Int32) (ct : Int32) (sg : Ar) : Option (Int32 × Int32 × Ar) :=
  if ct < (60 : Int32) then (gd (inb ct 60) (some ((1 : Int32), (ct + (1 : Int32)), (upd sg (Int32.toNatClampNeg ct) v1)))) else (some ((0 : Int32), ct, sg))
def m_X0_clean (ct : Int32) : Option (Int32 × Int32) :=
  some (ct, (0 : Int32))
def m_X4_isOutside (v0 : Int32) (v1 : Int32) (v2 : Int32) : Int32 :=
  if v0 < v1 then ((1 : Int32)) else (if v0 ≤ v2 then ((0 : Int32)) else ((1 : Int32)))
def m_X0_isAct (v0 : Int32) : Int32 :=
  if v0 = (46 : Int32) then ((1 : Int32)) else (if v0 = (104 : Int32) then ((1 : Int32)) else (if v0 = (33 : Int32) then ((1 : Int32)) else (if v0 = (110 : Int32) then ((1 : Int32)) else ((0 : Int32)))))
def j_X0_faultPlace_52 (k_4 : Int32 → Int32 → Option (Int32)) (v1 : Int32) (v2 : Int32) (v3 : Int32) : Option (Int32) :=
  if v1 = (0 : Int32) then (if v3 = (104 : Int32) then (k_4 (1 : Int32) (v2 + 1)) else (k_4 (0 : Int32) (v2 + 1))) else (k_4 (0 : Int32) (v2 + 1))
def j_X0_faultPlace_74 (v1 : Int32) (ct : Int32) : Option (Int32) :=
  if v1 = (0 : Int32) then (some (-6 : Int32)) else (some ct)
def b_X0_faultPlace_4 (k_4 : Int32 → Int32 → Option (Int32)) (ct : Int32) (sg : Ar) (v1 : Int32) (v2 : Int32) : Option (Int32) :=
  if ct ≤ v2 then (j_X0_faultPlace_74 v1 ct) else (if (60 : Int32) ≤ v2 then (j_X0_faultPlace_74 v1 ct) else (gd (inb v2 60) (if v1 = (0 : Int32) then (if (m_X0_isAct (sg (Int32.toNatClampNeg v2))) = (0 : Int32) then (some v2) else (j_X0_faultPlace_52 k_4 v1 v2 (sg (Int32.toNatClampNeg v2)))) else (if (m_X4_isOutside (sg (Int32.toNatClampNeg v2)) (48 : Int32) (57 : Int32)) = (0 : Int32) then (j_X0_faultPlace_52 k_4 v1 v2 (sg (Int32.toNatClampNeg v2))) else (some v2)))))
def L_X0_faultPlace_4 (ct : Int32) (sg : Ar) : Nat → Int32 → Int32 → Option (Int32)
  | 0 => fun _ _ => none
  | n + 1 => fun v1 v2 => b_X0_faultPlace_4  (L_X0_faultPlace_4  ct sg n) ct sg v1 v2
def m_X0_faultPlace (ct : Int32) (sg : Ar) : Option (Int32) :=
  L_X0_faultPlace_4 ct sg fu (0 : Int32) (0 : Int32)
def m_X0_toneBehind (v1 : Int32) (ct : Int32) (sg : Ar) : Option (Int32) :=
  if ct ≤ (v1 + (1 : Int32)) then (some (0 : Int32)) else (if (60 : Int32) ≤ (v1 + (1 : Int32)) then (some (0 : Int32)) else (gd (inb (v1 + (1 : Int32)) 60) (some ((sg (Int32.toNatClampNeg (v1 + (1 : Int32)))) - (48 : Int32)))))
def m_X3_copyFrom (fi : Ar) (to : Ar) (th2 : Int32) (he2 : Int32) (ma2 : Int32) (ro2 : Int32) (fi2 : Ar) (to2 : Ar) : Option (Int32 × Int32 × Int32 × Int32 × Ar × Ar) :=
  some (th2, he2, ma2, ro2, (va_cpy fi2 fi 0 0 12), (va_cpy to2 to 0 0 12))
def m_X1_copyFrom (fi : Ar) (to : Ar) (ne : Ar) (si2 : Int32) (ft2 : Int32) (th2 : Int32) (he2 : Int32) (ma2 : Int32) (ro2 : Int32) (fi2 : Ar) (to2 : Ar) (ne2 : Ar) : Option (Int32 × Int32 × Int32 × Int32 × Int32 × Int32 × Ar × Ar × Ar) :=
  ob6 (m_X3_copyFrom fi to th2 he2 ma2 ro2 fi2 to2) (fun th_1 he_2 ma_3 ro_4 fi_5 to_6 => some (si2, ft2, th_1, he_2, ma_3, ro_4, fi_5, to_6, (va_cpy ne2 ne 0 0 8)))
def m_J6_bitCount_0f7a4 (v0 : Int32) : Int32 :=
  bnd ((v0 - (((Int32.toUInt32 v0 >>> (Int32.toUInt32 (1 : Int32) &&& Int32.toUInt32 31)).toInt32) &&& (1431655765 : Int32)))) (fun w_1 => bnd (((w_1 &&& (858993459 : Int32)) + (((Int32.toUInt32 w_1 >>> (Int32.toUInt32 (2 : Int32) &&& Int32.toUInt32 31)).toInt32) &&& (858993459 : Int32)))) (fun w_2 => bnd (((w_2 + ((Int32.toUInt32 w_2 >>> (Int32.toUInt32 (4 : Int32) &&& Int32.toUInt32 31)).toInt32)) &&& (252645135 : Int32))) (fun w_3 => bnd ((w_3 + ((Int32.toUInt32 w_3 >>> (Int32.toUInt32 (8 : Int32) &&& Int32.toUInt32 31)).toInt32))) (fun w_4 => bnd ((w_4 + ((Int32.toUInt32 w_4 >>> (Int32.toUInt32 (16 : Int32) &&& Int32.toUInt32 31)).toInt32))) (fun w_5 => (w_5 &&& (63 : Int32)))))))
def b_X1_moved_10 (k_10 : Int32 → Int32 → Option (Int32)) (v1 : Int32) (v2 : Int32) (ne : Ar) (v3 : Int32) (v4 : Int32) : Option (Int32) :=
  if (8 : Int32) ≤ v4 then (some v3) else (if ((v1 >>> (v4 &&& 31)) &&& (1 : Int32)) = (0 : Int32) then (gd (inb v4 8) (if v2 < (ne (Int32.toNatClampNeg v4)) then (k_10 v3 (v4 + 1)) else (k_10 (v3 ||| ((1 : Int32) <<< (v4 &&& 31))) (v4 + 1)))) else (k_10 v3 (v4 + 1)))
def L_X1_moved_10 (v1 : Int32) (v2 : Int32) (ne : Ar) : Nat → Int32 → Int32 → Option (Int32)
  | 0 => fun _ _ => none
  | n + 1 => fun v3 v4 => b_X1_moved_10  (L_X1_moved_10  v1 v2 ne n) v1 v2 ne v3 v4
def m_X1_moved (v1 : Int32) (ne : Ar) : Option (Int32) :=
  L_X1_moved_10 v1 (m_J6_bitCount_0f7a4 v1) ne fu (0 : Int32) (0 : Int32)
def b_X1_speakers_5 (k_5 : Int32 → Int32 → Option (Int32)) (v2 : Int32) (ne : Ar) (v3 : Int32) (v4 : Int32) : Option (Int32) :=
  if (8 : Int32) ≤ v4 then (some v3) else (ob1 (m_X1_moved v3 ne) (fun r_2 => if (v3 ||| (r_2 &&& (v2 ^^^ (-1 : Int32)))) = v3 then (some v3) else (k_5 (v3 ||| (r_2 &&& (v2 ^^^ (-1 : Int32)))) (v4 + 1))))
def L_X1_speakers_5 (v2 : Int32) (ne : Ar) : Nat → Int32 → Int32 → Option (Int32)
  | 0 => fun _ _ => none
  | n + 1 => fun v3 v4 => b_X1_speakers_5  (L_X1_speakers_5  v2 ne n) v2 ne v3 v4
def m_X1_speakers (v1 : Int32) (v2 : Int32) (ne : Ar) : Option (Int32) :=
  L_X1_speakers_5 v2 ne fu v1 (0 : Int32)
def b_X1_fewestSilent_10 (k_10 : Int32 → Int32 → Int32 → Option (Int32)) (v1 : Int32) (v2 : Int32) (ne : Ar) (v3 : Int32) (v4 : Int32) (v5 : Int32) : Option (Int32) :=
  if (255 : Int32) < v5 then (some v3) else (if (v5 &&& v1) = (0 : Int32) then (if v4 ≤ (m_J6_bitCount_0f7a4 v5) then (k_10 v3 v4 (v5 + 1)) else (ob1 (m_X1_speakers v1 v5 ne) (fun r_4 => if v2 < (m_J6_bitCount_0f7a4 r_4) then (k_10 v3 v4 (v5 + 1)) else (k_10 v5 (m_J6_bitCount_0f7a4 v5) (v5 + 1))))) else (k_10 v3 v4 (v5 + 1)))
def L_X1_fewestSilent_10 (v1 : Int32) (v2 : Int32) (ne : Ar) : Nat → Int32 → Int32 → Int32 → Option (Int32)
  | 0 => fun _ _ _ => none
  | n + 1 => fun v3 v4 v5 => b_X1_fewestSilent_10  (L_X1_fewestSilent_10  v1 v2 ne n) v1 v2 ne v3 v4 v5
def m_X1_fewestSilent (v1 : Int32) (v2 : Int32) (ne : Ar) : Option (Int32) :=
  L_X1_fewestSilent_10 v1 v2 ne fu (-6 : Int32) (9 : Int32) (0 : Int32)
def m_X3_obstacle (v1 : Int32) (he : Int32) (ma : Int32) (ro : Int32) : Int32 :=
  if v1 = (33 : Int32) then (if he = (0 : Int32) then ((2 : Int32)) else ((0 : Int32))) else (if v1 = (110 : Int32) then (if ma = (0 : Int32) then ((3 : Int32)) else ((0 : Int32))) else (if ro < (99 : Int32) then ((0 : Int32)) else ((1 : Int32))))
def b_X3_downBits_4 (k_4 : Int32 → Int32 → Option (Int32)) (fi : Ar) (v1 : Int32) (v2 : Int32) : Option (Int32) :=
  if (12 : Int32) ≤ v2 then (some v1) else (gd (inb v2 12) (if (fi (Int32.toNatClampNeg v2)) = (0 : Int32) then (k_4 (v1 ||| ((1 : Int32) <<< (v2 &&& 31))) (v2 + 1)) else (k_4 v1 (v2 + 1))))
def L_X3_downBits_4 (fi : Ar) : Nat → Int32 → Int32 → Option (Int32)
  | 0 => fun _ _ => none
  | n + 1 => fun v1 v2 => b_X3_downBits_4  (L_X3_downBits_4  fi n) fi v1 v2
def m_X3_downBits (fi : Ar) : Option (Int32) :=
  L_X3_downBits_4 fi fu (0 : Int32) (0 : Int32)
def m_X3_isSpared (v1 : Int32) (th : Int32) (fi : Ar) : Option (Int32) :=
  gd (inb v1 12) (if (fi (Int32.toNatClampNeg v1)) ≤ (0 : Int32) then (some (0 : Int32)) else (if ((th >>> (v1 &&& 31)) &&& (1 : Int32)) = (1 : Int32) then (some (1 : Int32)) else (some (0 : Int32))))
def m_X3_leastLeft (v1 : Int32) (th : Int32) (fi : Ar) : Option (Int32) :=
  ob1 (m_X3_isSpared v1 th fi) (fun r_1 => if r_1 = (0 : Int32) then (some (0 : Int32)) else (some (1 : Int32)))
def j_X4_echo_14 (s14_0 : Int32) : Int32 :=
  if (2 : Int32) ≤ s14_0 then ((0 : Int32)) else (((2 : Int32) - s14_0))
def m_X4_echo (v0 : Int32) (v1 : Int32) : Int32 :=
  if v0 ≤ v1 then (j_X4_echo_14 (v1 - v0)) else (j_X4_echo_14 (v0 - v1))
def b_X3_blow_2 (k_2 : Int32 → Ar → Option (Ar)) (v1 : Int32) (th : Int32) (to : Ar) (v2 : Int32) (fi : Ar) : Option (Ar) :=
  if (12 : Int32) ≤ v2 then (some fi) else (ob1 (m_X3_leastLeft v2 th fi) (fun r_2 => gd (inb v2 12) (bnd ((imax r_2 ((fi (Int32.toNatClampNeg v2)) - (m_X4_echo v1 (to (Int32.toNatClampNeg v2)))))) (fun w_5 => k_2 (v2 + 1) (upd fi (Int32.toNatClampNeg v2) w_5)))))
def L_X3_blow_2 (v1 : Int32) (th : Int32) (to : Ar) : Nat → Int32 → Ar → Option (Ar)
  | 0 => fun _ _ => none
  | n + 1 => fun v2 fi => b_X3_blow_2  (L_X3_blow_2  v1 th to n) v1 th to v2 fi
def m_X3_blow (v1 : Int32) (th : Int32) (fi : Ar) (to : Ar) : Option (Ar) :=
  L_X3_blow_2 v1 th to fu (0 : Int32) fi
def b_X3_letOut_2 (k_2 : Int32 → Ar → Option (Int32 × Ar)) (th : Int32) (he : Int32) (v1 : Int32) (fi : Ar) : Option (Int32 × Ar) :=
  if (12 : Int32) ≤ v1 then (some ((0 : Int32), fi)) else (ob1 (m_X3_leastLeft v1 th fi) (fun r_2 => gd (inb v1 12) (k_2 (v1 + 1) (upd fi (Int32.toNatClampNeg v1) (imax r_2 ((fi (Int32.toNatClampNeg v1)) - he))))))
def L_X3_letOut_2 (th : Int32) (he : Int32) : Nat → Int32 → Ar → Option (Int32 × Ar)
  | 0 => fun _ _ => none
  | n + 1 => fun v1 fi => b_X3_letOut_2  (L_X3_letOut_2  th he n) th he v1 fi
def m_X3_letOut (th : Int32) (he : Int32) (fi : Ar) : Option (Int32 × Ar) :=
  L_X3_letOut_2 th he fu (0 : Int32) fi
def b_X3_leastFirmBeside_8 (k_8 : Int32 → Int32 → Int32 → Option (Int32)) (v1 : Int32) (fi : Ar) (v2 : Int32) (v3 : Int32) (v4 : Int32) : Option (Int32) :=
  if (12 : Int32) ≤ v4 then (some v2) else (gd (inb v4 12) (if (fi (Int32.toNatClampNeg v4)) ≤ (0 : Int32) then (k_8 v2 v3 (v4 + 1)) else (if v3 ≤ (fi (Int32.toNatClampNeg v4)) then (k_8 v2 v3 (v4 + 1)) else (if ((v1 >>> (v4 &&& 31)) &&& (1 : Int32)) = (0 : Int32) then (k_8 ((1 : Int32) <<< (v4 &&& 31)) (fi (Int32.toNatClampNeg v4)) (v4 + 1)) else (k_8 v2 v3 (v4 + 1))))))
def L_X3_leastFirmBeside_8 (v1 : Int32) (fi : Ar) : Nat → Int32 → Int32 → Int32 → Option (Int32)
  | 0 => fun _ _ _ => none
  | n + 1 => fun v2 v3 v4 => b_X3_leastFirmBeside_8  (L_X3_leastFirmBeside_8  v1 fi n) v1 fi v2 v3 v4
def m_X3_leastFirmBeside (v1 : Int32) (fi : Ar) : Option (Int32) :=
  L_X3_leastFirmBeside_8 v1 fi fu (0 : Int32) (99 : Int32) (0 : Int32)
def b_X3_mend_28 (k_28 : Int32 → Ar → Option (Ar)) (v1 : Int32) (v2 : Int32) (fi : Ar) : Option (Ar) :=
  if (12 : Int32) ≤ v2 then (some fi) else (gd (inb v2 12) (bnd (((fi (Int32.toNatClampNeg v2)) + ((v1 >>> (v2 &&& 31)) &&& (1 : Int32)))) (fun w_6 => k_28 (v2 + 1) (upd fi (Int32.toNatClampNeg v2) w_6))))
def L_X3_mend_28 (v1 : Int32) : Nat → Int32 → Ar → Option (Ar)
  | 0 => fun _ _ => none
  | n + 1 => fun v2 fi => b_X3_mend_28  (L_X3_mend_28  v1 n) v1 v2 fi
def b_X3_mend_4 (k_4 : Int32 → Int32 → Option (Ar)) (ma : Int32) (fi : Ar) (v1 : Int32) (v2 : Int32) : Option (Ar) :=
  if ma ≤ v2 then (L_X3_mend_28 v1 fu (0 : Int32) fi) else (ob1 (m_X3_leastFirmBeside v1 fi) (fun r_2 => k_4 (v1 ||| r_2) (v2 + 1)))
def L_X3_mend_4 (ma : Int32) (fi : Ar) : Nat → Int32 → Int32 → Option (Ar)
  | 0 => fun _ _ => none
  | n + 1 => fun v1 v2 => b_X3_mend_4  (L_X3_mend_4  ma fi n) ma fi v1 v2
def m_X3_mend (ma : Int32) (fi : Ar) : Option (Ar) :=
  L_X3_mend_4 ma fi fu (0 : Int32) (0 : Int32)
def m_X3_act (v1 : Int32) (v2 : Int32) (th : Int32) (he : Int32) (ma : Int32) (ro : Int32) (fi : Ar) (to : Ar) : Option (Int32 × Int32 × Ar) :=
  if v1 = (33 : Int32) then (ob2 (m_X3_letOut th he fi) (fun he_2 fi_3 => some (he_2, ro, fi_3))) else (if v1 = (46 : Int32) then (some ((imin (99 : Int32) (he + (1 : Int32))), (ro + (1 : Int32)), fi)) else (if v1 = (104 : Int32) then (ob1 (m_X3_blow v2 th fi to) (fun fi_7 => some (he, (ro + (1 : Int32)), fi_7))) else (ob1 (m_X3_mend ma fi) (fun fi_9 => some (he, ro, fi_9)))))
def b_X2_leastOf_2 (k_2 : Int32 → Option (Int32)) (v0 : Int32) (v1 : Int32) : Option (Int32) :=
  if (11 : Int32) ≤ v1 then (some v1) else (if ((v0 >>> (v1 &&& 31)) &&& (1 : Int32)) = (0 : Int32) then (k_2 (v1 + 1)) else (some v1))
def L_X2_leastOf_2 (v0 : Int32) : Nat → Int32 → Option (Int32)
  | 0 => fun _ => none
  | n + 1 => fun v1 => b_X2_leastOf_2  (L_X2_leastOf_2  v0 n) v0 v1
def m_X2_leastOf (v0 : Int32) : Option (Int32) :=
  L_X2_leastOf_2 v0 fu (0 : Int32)
def m_X2_noteFall (v1 : Int32) (ac : Int32) (fa : Int32) (fp : Int32) : Option (Int32 × Int32) :=
  if v1 = (0 : Int32) then (some (fa, fp)) else (if fa = (-6 : Int32) then (ob1 (m_X2_leastOf v1) (fun r_3 => some (ac, r_3))) else (some (fa, fp)))
def j_X2_follow_106 (k_32 : Int32 → Int32 → Int32 → Int32 → Int32 → Int32 → Int32 → Ar → Option (Int32 × Int32 × Int32 × Int32 × Int32 × Int32 × Int32 × Int32 × Ar × Ar)) (v3 : Int32) (v4 : Int32) (v5 : Int32) (s106_0 : Int32) (s106_1 : Int32) (ac : Int32) (wy : Int32) (fa : Int32) (fp : Int32) (thw : Int32) (hew : Int32) (maw : Int32) (row : Int32) (fiw : Ar) (tow : Ar) : Option (Int32 × Int32 × Int32 × Int32 × Int32 × Int32 × Int32 × Int32 × Ar × Ar) :=
  ob3 (m_X3_act s106_1 s106_0 thw hew maw row fiw tow) (fun hew_17 row_18 fiw_19 => ob1 (m_X3_downBits fiw_19) (fun r_21 => ob2 (m_X2_noteFall (r_21 &&& (v5 ^^^ (-1 : Int32))) ac fa fp) (fun fa_23 fp_24 => if v4 = (104 : Int32) then (k_32 (v3 + (2 : Int32)) (ac + (1 : Int32)) wy fa_23 fp_24 hew_17 row_18 fiw_19) else (k_32 (v3 + (1 : Int32)) (ac + (1 : Int32)) wy fa_23 fp_24 hew_17 row_18 fiw_19))))
def b_X2_follow_32 (k_32 : Int32 → Int32 → Int32 → Int32 → Int32 → Int32 → Int32 → Ar → Option (Int32 × Int32 × Int32 × Int32 × Int32 × Int32 × Int32 × Int32 × Ar × Ar)) (thw : Int32) (maw : Int32) (tow : Ar) (ct : Int32) (sg : Ar) (v3 : Int32) (ac : Int32) (wy : Int32) (fa : Int32) (fp : Int32) (hew : Int32) (row : Int32) (fiw : Ar) : Option (Int32 × Int32 × Int32 × Int32 × Int32 × Int32 × Int32 × Int32 × Ar × Ar) :=
  if ct ≤ v3 then (some (ac, wy, fa, fp, thw, hew, maw, row, fiw, tow)) else (if (60 : Int32) ≤ v3 then (some (ac, wy, fa, fp, thw, hew, maw, row, fiw, tow)) else (gd (inb v3 60) (if (m_X3_obstacle (sg (Int32.toNatClampNeg v3)) hew maw row) = (0 : Int32) then (ob1 (m_X3_downBits fiw) (fun r_12 => if (sg (Int32.toNatClampNeg v3)) = (104 : Int32) then (ob1 (m_X0_toneBehind v3 ct sg) (fun r_15 => j_X2_follow_106 k_32 v3 (sg (Int32.toNatClampNeg v3)) r_12 r_15 (sg (Int32.toNatClampNeg v3)) ac (m_X3_obstacle (sg (Int32.toNatClampNeg v3)) hew maw row) fa fp thw hew maw row fiw tow)) else (j_X2_follow_106 k_32 v3 (sg (Int32.toNatClampNeg v3)) r_12 (0 : Int32) (sg (Int32.toNatClampNeg v3)) ac (m_X3_obstacle (sg (Int32.toNatClampNeg v3)) hew maw row) fa fp thw hew maw row fiw tow))) else (some (ac, (m_X3_obstacle (sg (Int32.toNatClampNeg v3)) hew maw row), fa, fp, thw, hew, maw, row, fiw, tow)))))
def L_X2_follow_32 (thw : Int32) (maw : Int32) (tow : Ar) (ct : Int32) (sg : Ar) : Nat → Int32 → Int32 → Int32 → Int32 → Int32 → Int32 → Int32 → Ar → Option (Int32 × Int32 × Int32 × Int32 × Int32 × Int32 × Int32 × Int32 × Ar × Ar)
  | 0 => fun _ _ _ _ _ _ _ _ => none
  | n + 1 => fun v3 ac wy fa fp hew row fiw => b_X2_follow_32  (L_X2_follow_32  thw maw tow ct sg n) thw maw tow ct sg v3 ac wy fa fp hew row fiw
def m_X2_follow (fiw : Ar) (tow : Ar) (ct : Int32) (sg : Ar) (th : Int32) (he : Int32) (ma : Int32) (ro : Int32) (fi : Ar) (to : Ar) : Option (Int32 × Int32 × Int32 × Int32 × Int32 × Int32 × Int32 × Int32 × Ar × Ar) :=
  ob6 (m_X3_copyFrom fiw tow th he ma ro fi to) (fun thw_1 hew_2 maw_3 row_4 fiw_5 tow_6 => L_X2_follow_32 thw_1 maw_3 tow_6 ct sg fu (0 : Int32) (0 : Int32) (0 : Int32) (-6 : Int32) (-6 : Int32) hew_2 row_4 fiw_5)
def m_X3_replaceHeld (v1 : Int32) (he : Int32) : Option (Int32 × Int32) :=
  some (he, v1)
def m_X3_replaceMasons (v1 : Int32) (ma : Int32) : Option (Int32 × Int32) :=
  some (ma, v1)
def m_X3_replaceRound (v1 : Int32) (ro : Int32) : Option (Int32 × Int32) :=
  some (ro, v1)
def m_X3_drawnSign (v0 : Int32) : Int32 :=
  if v0 = (4 : Int32) then ((104 : Int32)) else (if v0 = (5 : Int32) then ((104 : Int32)) else (if v0 = (6 : Int32) then ((33 : Int32)) else (if v0 = (7 : Int32) then ((110 : Int32)) else ((46 : Int32)))))
def b_X3_live_5 (k_5 : Int32 → Int32 → Int32 → Int32 → Ar → Option (Int32 × Int32 × Ar)) (v2 : Int32) (th : Int32) (ma : Int32) (to : Ar) (v3 : Int32) (v4 : Int32) (he : Int32) (ro : Int32) (fi : Ar) : Option (Int32 × Int32 × Ar) :=
  if v2 ≤ v4 then (some (he, ro, fi)) else (bnd ((m_X3_drawnSign (irem (irem (((75 : Int32) * v3) + (74 : Int32)) (65537 : Int32)) (8 : Int32)))) (fun w_2 => if (m_X3_obstacle w_2 he ma ro) = (0 : Int32) then (ob3 (m_X3_act w_2 (irem ((irem (((75 : Int32) * v3) + (74 : Int32)) (65537 : Int32)) / (8 : Int32)) (10 : Int32)) th he ma ro fi to) (fun he_4 ro_5 fi_6 => k_5 (irem (((75 : Int32) * v3) + (74 : Int32)) (65537 : Int32)) (v4 + 1) he_4 ro_5 fi_6)) else (k_5 (irem (((75 : Int32) * v3) + (74 : Int32)) (65537 : Int32)) (v4 + 1) he ro fi)))
def L_X3_live_5 (v2 : Int32) (th : Int32) (ma : Int32) (to : Ar) : Nat → Int32 → Int32 → Int32 → Int32 → Ar → Option (Int32 × Int32 × Ar)
  | 0 => fun _ _ _ _ _ => none
  | n + 1 => fun v3 v4 he ro fi => b_X3_live_5  (L_X3_live_5  v2 th ma to n) v2 th ma to v3 v4 he ro fi
def m_X3_live (v1 : Int32) (v2 : Int32) (th : Int32) (he : Int32) (ma : Int32) (ro : Int32) (fi : Ar) (to : Ar) : Option (Int32 × Int32 × Ar) :=
  L_X3_live_5 v2 th ma to fu v1 (0 : Int32) he ro fi
def b_X3_noiseFor_5 (k_5 : Int32 → Int32 → Option (Int32)) (v1 : Int32) (v2 : Int32) (th : Int32) (fi : Ar) (v3 : Int32) (v4 : Int32) : Option (Int32) :=
  if v2 ≤ v4 then (some v3) else (ob1 (m_X3_isSpared (irem (v1 + v4) (12 : Int32)) th fi) (fun r_2 => if r_2 = (0 : Int32) then (gd (inb (irem (v1 + v4) (12 : Int32)) 12) (k_5 (imax v3 (fi (Int32.toNatClampNeg (irem (v1 + v4) (12 : Int32))))) (v4 + 1))) else (some (-6 : Int32))))
def L_X3_noiseFor_5 (v1 : Int32) (v2 : Int32) (th : Int32) (fi : Ar) : Nat → Int32 → Int32 → Option (Int32)
  | 0 => fun _ _ => none
  | n + 1 => fun v3 v4 => b_X3_noiseFor_5  (L_X3_noiseFor_5  v1 v2 th fi n) v1 v2 th fi v3 v4
def m_X3_noiseFor (v1 : Int32) (v2 : Int32) (th : Int32) (fi : Ar) : Option (Int32) :=
  L_X3_noiseFor_5 v1 v2 th fi fu (0 : Int32) (0 : Int32)
def b_X3_silentRoundsFor_5 (k_5 : Int32 → Int32 → Option (Int32)) (v1 : Int32) (th : Int32) (he : Int32) (fi : Ar) (v2 : Int32) (v3 : Int32) : Option (Int32) :=
  if (12 : Int32) ≤ v3 then (some v2) else (ob1 (m_X3_noiseFor v3 v1 th fi) (fun r_2 => if r_2 = (-6 : Int32) then (k_5 v2 (v3 + 1)) else (if v2 = (-6 : Int32) then (k_5 (imax (0 : Int32) (r_2 - he)) (v3 + 1)) else (if v2 ≤ (imax (0 : Int32) (r_2 - he)) then (k_5 v2 (v3 + 1)) else (k_5 (imax (0 : Int32) (r_2 - he)) (v3 + 1))))))
def L_X3_silentRoundsFor_5 (v1 : Int32) (th : Int32) (he : Int32) (fi : Ar) : Nat → Int32 → Int32 → Option (Int32)
  | 0 => fun _ _ => none
  | n + 1 => fun v2 v3 => b_X3_silentRoundsFor_5  (L_X3_silentRoundsFor_5  v1 th he fi n) v1 th he fi v2 v3
def m_X3_silentRoundsFor (v1 : Int32) (th : Int32) (he : Int32) (fi : Ar) : Option (Int32) :=
  L_X3_silentRoundsFor_5 v1 th he fi fu (-6 : Int32) (0 : Int32)
def b_X3_downByHorns_27 (k_5 : Int32 → Int32 → Option (Int32)) (k_27 : Int32 → Int32 → Int32 → Option (Int32)) (v2 : Int32) (v3 : Int32) (v4 : Int32) (th : Int32) (fi : Ar) (to : Ar) (v5 : Int32) (v6 : Int32) (v7 : Int32) : Option (Int32) :=
  if v2 ≤ v7 then (if (0 : Int32) < v5 then (k_5 v3 (v4 + 1)) else (ob1 (m_X3_isSpared v4 th fi) (fun r_5 => if r_5 = (0 : Int32) then (k_5 (v3 + 1) (v4 + 1)) else (k_5 v3 (v4 + 1))))) else (gd (inb v4 12) (bnd ((v5 - (m_X4_echo (irem v6 (10 : Int32)) (to (Int32.toNatClampNeg v4))))) (fun w_9 => k_27 w_9 (v6 / (10 : Int32)) (v7 + 1))))
def L_X3_downByHorns_27 (k_5 : Int32 → Int32 → Option (Int32)) (v2 : Int32) (v3 : Int32) (v4 : Int32) (th : Int32) (fi : Ar) (to : Ar) : Nat → Int32 → Int32 → Int32 → Option (Int32)
  | 0 => fun _ _ _ => none
  | n + 1 => fun v5 v6 v7 => b_X3_downByHorns_27 k_5 (L_X3_downByHorns_27 k_5 v2 v3 v4 th fi to n) v2 v3 v4 th fi to v5 v6 v7
def b_X3_downByHorns_5 (k_5 : Int32 → Int32 → Option (Int32)) (v1 : Int32) (v2 : Int32) (th : Int32) (fi : Ar) (to : Ar) (v3 : Int32) (v4 : Int32) : Option (Int32) :=
  if (12 : Int32) ≤ v4 then (some v3) else (gd (inb v4 12) (L_X3_downByHorns_27 k_5 v2 v3 v4 th fi to fu (fi (Int32.toNatClampNeg v4)) v1 (0 : Int32)))
def L_X3_downByHorns_5 (v1 : Int32) (v2 : Int32) (th : Int32) (fi : Ar) (to : Ar) : Nat → Int32 → Int32 → Option (Int32)
  | 0 => fun _ _ => none
  | n + 1 => fun v3 v4 => b_X3_downByHorns_5  (L_X3_downByHorns_5  v1 v2 th fi to n) v1 v2 th fi to v3 v4
def m_X3_downByHorns (v1 : Int32) (v2 : Int32) (th : Int32) (fi : Ar) (to : Ar) : Option (Int32) :=
  L_X3_downByHorns_5 v1 v2 th fi to fu (0 : Int32) (0 : Int32)
def b_X4_powerOfTen_4 (k_4 : Int32 → Int32 → Option (Int32)) (v0 : Int32) (v1 : Int32) (v2 : Int32) : Option (Int32) :=
  if v0 ≤ v2 then (some v1) else (k_4 (v1 * (10 : Int32)) (v2 + 1))
def L_X4_powerOfTen_4 (v0 : Int32) : Nat → Int32 → Int32 → Option (Int32)
  | 0 => fun _ _ => none
  | n + 1 => fun v1 v2 => b_X4_powerOfTen_4  (L_X4_powerOfTen_4  v0 n) v0 v1 v2
def m_X4_powerOfTen (v0 : Int32) : Option (Int32) :=
  L_X4_powerOfTen_4 v0 fu (1 : Int32) (0 : Int32)
def b_X3_neverGoesDown_4 (k_4 : Int32 → Int32 → Option (Int32)) (v1 : Int32) (v2 : Int32) : Option (Int32) :=
  if (3 : Int32) ≤ v2 then (some (1 : Int32)) else (if (irem (v1 / (10 : Int32)) (10 : Int32)) ≤ (irem v1 (10 : Int32)) then (k_4 (v1 / (10 : Int32)) (v2 + 1)) else (some (0 : Int32)))
def L_X3_neverGoesDown_4 : Nat → Int32 → Int32 → Option (Int32)
  | 0 => fun _ _ => none
  | n + 1 => fun v1 v2 => b_X3_neverGoesDown_4  (L_X3_neverGoesDown_4   n)  v1 v2
def m_X3_neverGoesDown (v0 : Int32) : Option (Int32) :=
  L_X3_neverGoesDown_4 fu v0 (1 : Int32)
def b_X3_bestHorns_18 (k_18 : Int32 → Int32 → Int32 → Option (Int32)) (v1 : Int32) (v4 : Int32) (th : Int32) (fi : Ar) (to : Ar) (v2 : Int32) (v3 : Int32) (v5 : Int32) : Option (Int32) :=
  if v4 ≤ v5 then (some v2) else (ob1 (m_X3_neverGoesDown v5) (fun r_6 => if r_6 = (0 : Int32) then (k_18 v2 v3 (v5 + 1)) else (ob1 (m_X3_downByHorns v5 v1 th fi to) (fun r_9 => if r_9 ≤ v3 then (k_18 v2 v3 (v5 + 1)) else (k_18 v5 r_9 (v5 + 1))))))
def L_X3_bestHorns_18 (v1 : Int32) (v4 : Int32) (th : Int32) (fi : Ar) (to : Ar) : Nat → Int32 → Int32 → Int32 → Option (Int32)
  | 0 => fun _ _ _ => none
  | n + 1 => fun v2 v3 v5 => b_X3_bestHorns_18  (L_X3_bestHorns_18  v1 v4 th fi to n) v1 v4 th fi to v2 v3 v5
def m_X3_bestHorns (v1 : Int32) (th : Int32) (fi : Ar) (to : Ar) : Option (Int32) :=
  ob1 (m_X3_downByHorns (0 : Int32) v1 th fi to) (fun r_1 => ob1 (m_X4_powerOfTen v1) (fun r_3 => L_X3_bestHorns_18 v1 r_3 th fi to fu (0 : Int32) r_1 (1 : Int32)))
def b_X3_firmTogether_5 (k_5 : Int32 → Int32 → Option (Int32)) (v1 : Int32) (v2 : Int32) (fi : Ar) (v3 : Int32) (v4 : Int32) : Option (Int32) :=
  if v2 ≤ v4 then (some v3) else (gd (inb (irem (v1 + v4) (12 : Int32)) 12) (k_5 (v3 + (fi (Int32.toNatClampNeg (irem (v1 + v4) (12 : Int32))))) (v4 + 1)))
def L_X3_firmTogether_5 (v1 : Int32) (v2 : Int32) (fi : Ar) : Nat → Int32 → Int32 → Option (Int32)
  | 0 => fun _ _ => none
  | n + 1 => fun v3 v4 => b_X3_firmTogether_5  (L_X3_firmTogether_5  v1 v2 fi n) v1 v2 fi v3 v4
def m_X3_firmTogether (v1 : Int32) (v2 : Int32) (fi : Ar) : Option (Int32) :=
  L_X3_firmTogether_5 v1 v2 fi fu (0 : Int32) (0 : Int32)
def b_X3_weakestStretch_12 (k_12 : Int32 → Int32 → Int32 → Option (Int32)) (v1 : Int32) (fi : Ar) (v2 : Int32) (v3 : Int32) (v4 : Int32) : Option (Int32) :=
  if (12 : Int32) ≤ v4 then (some v2) else (ob1 (m_X3_firmTogether v4 v1 fi) (fun r_4 => if v3 ≤ r_4 then (k_12 v2 v3 (v4 + 1)) else (k_12 v4 r_4 (v4 + 1))))
def L_X3_weakestStretch_12 (v1 : Int32) (fi : Ar) : Nat → Int32 → Int32 → Int32 → Option (Int32)
  | 0 => fun _ _ _ => none
  | n + 1 => fun v2 v3 v4 => b_X3_weakestStretch_12  (L_X3_weakestStretch_12  v1 fi n) v1 fi v2 v3 v4
def m_X3_weakestStretch (v1 : Int32) (fi : Ar) : Option (Int32) :=
  ob1 (m_X3_firmTogether (0 : Int32) v1 fi) (fun r_1 => L_X3_weakestStretch_12 v1 fi fu (0 : Int32) r_1 (1 : Int32))
def m_X4_part (v1 : Int32) (v2 : Int32) (v3 : Int32) (fi : Ar) (to : Ar) : Option (Int32 × Ar × Ar) :=
  if (m_X4_isOutside v1 (0 : Int32) (11 : Int32)) = (0 : Int32) then (if (m_X4_isOutside v2 (0 : Int32) (99 : Int32)) = (0 : Int32) then (if (m_X4_isOutside v3 (0 : Int32) (9 : Int32)) = (0 : Int32) then (gd (inb v1 12) (some ((fi (Int32.toNatClampNeg v1)), (upd fi (Int32.toNatClampNeg v1) v2), (upd to (Int32.toNatClampNeg v1) v3)))) else (some ((-2 : Int32), fi, to))) else (some ((-2 : Int32), fi, to))) else (some ((-1 : Int32), fi, to))
def j_X4_thread_56 (s56_0 : Int32) : Option (Int32 × Int32) :=
  some ((m_J6_bitCount_0f7a4 s56_0), s56_0)
def m_X4_thread (v1 : Int32) (v2 : Int32) (th : Int32) : Option (Int32 × Int32) :=
  if (m_X4_isOutside v1 (0 : Int32) (11 : Int32)) = (0 : Int32) then (if v2 = (0 : Int32) then (j_X4_thread_56 (th &&& (((1 : Int32) <<< (v1 &&& 31)) ^^^ (-1 : Int32)))) else (j_X4_thread_56 (th ||| ((1 : Int32) <<< (v1 &&& 31))))) else (some ((-1 : Int32), th))
def m_X4_set (v1 : Int32) (v2 : Int32) (he : Int32) (ma : Int32) (ro : Int32) : Option (Int32 × Int32 × Int32 × Int32) :=
  if v1 = (0 : Int32) then (if (m_X4_isOutside v2 (0 : Int32) (99 : Int32)) = (0 : Int32) then (ob2 (m_X3_replaceHeld v2 he) (fun r_3 he_4 => some (r_3, he_4, ma, ro))) else (some ((-2 : Int32), he, ma, ro))) else (if v1 = (1 : Int32) then (if (m_X4_isOutside v2 (0 : Int32) (12 : Int32)) = (0 : Int32) then (ob2 (m_X3_replaceMasons v2 ma) (fun r_8 ma_9 => some (r_8, he, ma_9, ro))) else (some ((-2 : Int32), he, ma, ro))) else (if v1 = (2 : Int32) then (if (m_X4_isOutside v2 (0 : Int32) (99 : Int32)) = (0 : Int32) then (ob2 (m_X3_replaceRound v2 ro) (fun r_13 ro_14 => some (r_13, he, ma, ro_14))) else (some ((-2 : Int32), he, ma, ro))) else (some ((-2 : Int32), he, ma, ro))))
def m_X4_man (v1 : Int32) (v2 : Int32) (ne : Ar) : Option (Int32 × Ar) :=
  if (m_X4_isOutside v1 (0 : Int32) (7 : Int32)) = (0 : Int32) then (if (m_X4_isOutside v2 (0 : Int32) (8 : Int32)) = (0 : Int32) then (gd (inb v1 8) (some ((ne (Int32.toNatClampNeg v1)), (upd ne (Int32.toNatClampNeg v1) v2)))) else (some ((-2 : Int32), ne))) else (some ((-1 : Int32), ne))
def m_X4_say (v1 : Int32) (ct : Int32) (sg : Ar) : Option (Int32 × Int32 × Ar) :=
  if (m_X4_isOutside v1 (33 : Int32) (126 : Int32)) = (0 : Int32) then (ob3 (m_X0_write v1 ct sg) (fun r_2 ct_3 sg_4 => if r_2 = (0 : Int32) then (some ((-4 : Int32), ct_3, sg_4)) else (some (ct_3, ct_3, sg_4)))) else (some ((-2 : Int32), ct, sg))
def m_X4_wipe (ct : Int32) : Option (Int32 × Int32) :=
  ob2 (m_X0_clean ct) (fun r_1 ct_2 => some (r_1, ct_2))
def m_X4_fault (ct : Int32) (sg : Ar) : Option (Int32) :=
  ob1 (m_X0_faultPlace ct sg) (fun r_1 => some r_1)
def m_X4_judge (v1 : Int32) (ct : Int32) (sg : Ar) (th : Int32) (he : Int32) (ma : Int32) (ro : Int32) (fi : Ar) (to : Ar) (ac : Int32) (wy : Int32) (fa : Int32) (fp : Int32) (thw : Int32) (hew : Int32) (maw : Int32) (row : Int32) (fiw : Ar) (tow : Ar) : Option (Int32 × Int32 × Int32 × Int32 × Int32 × Int32 × Int32 × Int32 × Int32 × Ar × Ar) :=
  if (m_X4_isOutside v1 (0 : Int32) (1 : Int32)) = (0 : Int32) then (ob1 (m_X0_faultPlace ct sg) (fun r_2 => if r_2 = (-6 : Int32) then (ob10 (m_X2_follow fiw tow ct sg th he ma ro fi to) (fun ac_5 wy_6 fa_7 fp_8 thw_9 hew_10 maw_11 row_12 fiw_13 tow_14 => if wy_6 = (0 : Int32) then (some ((-6 : Int32), ac_5, wy_6, fa_7, fp_8, thw_9, hew_10, maw_11, row_12, fiw_13, tow_14)) else (if v1 = (0 : Int32) then (some (ac_5, ac_5, wy_6, fa_7, fp_8, thw_9, hew_10, maw_11, row_12, fiw_13, tow_14)) else (some (wy_6, ac_5, wy_6, fa_7, fp_8, thw_9, hew_10, maw_11, row_12, fiw_13, tow_14))))) else (some ((-5 : Int32), ac, wy, fa, fp, thw, hew, maw, row, fiw, tow)))) else (some ((-2 : Int32), ac, wy, fa, fp, thw, hew, maw, row, fiw, tow))
def m_X4_canWalk (ct : Int32) (sg : Ar) (th : Int32) (he : Int32) (ma : Int32) (ro : Int32) (fi : Ar) (to : Ar) (ac : Int32) (wy : Int32) (fa : Int32) (fp : Int32) (thw : Int32) (hew : Int32) (maw : Int32) (row : Int32) (fiw : Ar) (tow : Ar) : Option (Int32 × Int32 × Int32 × Int32 × Int32 × Int32 × Int32 × Int32 × Int32 × Ar × Ar) :=
  ob1 (m_X0_faultPlace ct sg) (fun r_1 => if r_1 = (-6 : Int32) then (ob10 (m_X2_follow fiw tow ct sg th he ma ro fi to) (fun ac_4 wy_5 fa_6 fp_7 thw_8 hew_9 maw_10 row_11 fiw_12 tow_13 => if wy_5 = (0 : Int32) then (some ((1 : Int32), ac_4, wy_5, fa_6, fp_7, thw_8, hew_9, maw_10, row_11, fiw_12, tow_13)) else (some ((0 : Int32), ac_4, wy_5, fa_6, fp_7, thw_8, hew_9, maw_10, row_11, fiw_12, tow_13)))) else (some ((0 : Int32), ac, wy, fa, fp, thw, hew, maw, row, fiw, tow)))
def m_X4_done (ct : Int32) (sg : Ar) (th : Int32) (he : Int32) (ma : Int32) (ro : Int32) (fi : Ar) (to : Ar) (ac : Int32) (wy : Int32) (fa : Int32) (fp : Int32) (thw : Int32) (hew : Int32) (maw : Int32) (row : Int32) (fiw : Ar) (tow : Ar) : Option (Int32 × Int32 × Int32 × Int32 × Int32 × Int32 × Ar × Ar × Int32 × Int32 × Int32 × Int32 × Int32 × Int32 × Int32 × Int32 × Ar × Ar) :=
  ob11 (m_X4_canWalk ct sg th he ma ro fi to ac wy fa fp thw hew maw row fiw tow) (fun r_1 ac_2 wy_3 fa_4 fp_5 thw_6 hew_7 maw_8 row_9 fiw_10 tow_11 => if r_1 = (0 : Int32) then (some ((-5 : Int32), ct, th, he, ma, ro, fi, to, ac_2, wy_3, fa_4, fp_5, thw_6, hew_7, maw_8, row_9, fiw_10, tow_11)) else (ob6 (m_X3_copyFrom fi to thw_6 hew_7 maw_8 row_9 fiw_10 tow_11) (fun th_14 he_15 ma_16 ro_17 fi_18 to_19 => ob2 (m_X0_clean ct) (fun r_21 ct_22 => some (ac_2, ct_22, th_14, he_15, ma_16, ro_17, fi_18, to_19, ac_2, wy_3, fa_4, fp_5, thw_6, hew_7, maw_8, row_9, fiw_10, tow_11)))))
def m_X4_behind (v1 : Int32) (ct : Int32) (sg : Ar) (th : Int32) (he : Int32) (ma : Int32) (ro : Int32) (fi : Ar) (to : Ar) (ac : Int32) (wy : Int32) (fa : Int32) (fp : Int32) (thw : Int32) (hew : Int32) (maw : Int32) (row : Int32) (fiw : Ar) (tow : Ar) : Option (Int32 × Int32 × Int32 × Int32 × Int32 × Int32 × Int32 × Int32 × Int32 × Ar × Ar) :=
  if (m_X4_isOutside v1 (0 : Int32) (11 : Int32)) = (0 : Int32) then (ob11 (m_X4_canWalk ct sg th he ma ro fi to ac wy fa fp thw hew maw row fiw tow) (fun r_2 ac_3 wy_4 fa_5 fp_6 thw_7 hew_8 maw_9 row_10 fiw_11 tow_12 => if r_2 = (0 : Int32) then (some ((-5 : Int32), ac_3, wy_4, fa_5, fp_6, thw_7, hew_8, maw_9, row_10, fiw_11, tow_12)) else (gd (inb v1 12) (some ((fiw_11 (Int32.toNatClampNeg v1)), ac_3, wy_4, fa_5, fp_6, thw_7, hew_8, maw_9, row_10, fiw_11, tow_12))))) else (some ((-1 : Int32), ac, wy, fa, fp, thw, hew, maw, row, fiw, tow))
def m_X4_then (v1 : Int32) (ct : Int32) (sg : Ar) (th : Int32) (he : Int32) (ma : Int32) (ro : Int32) (fi : Ar) (to : Ar) (ac : Int32) (wy : Int32) (fa : Int32) (fp : Int32) (thw : Int32) (hew : Int32) (maw : Int32) (row : Int32) (fiw : Ar) (tow : Ar) : Option (Int32 × Int32 × Int32 × Int32 × Int32 × Int32 × Int32 × Int32 × Int32 × Ar × Ar) :=
  if (m_X4_isOutside v1 (0 : Int32) (2 : Int32)) = (0 : Int32) then (ob11 (m_X4_canWalk ct sg th he ma ro fi to ac wy fa fp thw hew maw row fiw tow) (fun r_2 ac_3 wy_4 fa_5 fp_6 thw_7 hew_8 maw_9 row_10 fiw_11 tow_12 => if r_2 = (0 : Int32) then (some ((-5 : Int32), ac_3, wy_4, fa_5, fp_6, thw_7, hew_8, maw_9, row_10, fiw_11, tow_12)) else (if v1 = (0 : Int32) then (ob1 (m_X3_downBits fiw_11) (fun r_16 => some (r_16, ac_3, wy_4, fa_5, fp_6, thw_7, hew_8, maw_9, row_10, fiw_11, tow_12))) else (if v1 = (1 : Int32) then (some (hew_8, ac_3, wy_4, fa_5, fp_6, thw_7, hew_8, maw_9, row_10, fiw_11, tow_12)) else (some (row_10, ac_3, wy_4, fa_5, fp_6, thw_7, hew_8, maw_9, row_10, fiw_11, tow_12)))))) else (some ((-2 : Int32), ac, wy, fa, fp, thw, hew, maw, row, fiw, tow))
def m_X4_fell (v1 : Int32) (ct : Int32) (sg : Ar) (th : Int32) (he : Int32) (ma : Int32) (ro : Int32) (fi : Ar) (to : Ar) (ac : Int32) (wy : Int32) (fa : Int32) (fp : Int32) (thw : Int32) (hew : Int32) (maw : Int32) (row : Int32) (fiw : Ar) (tow : Ar) : Option (Int32 × Int32 × Int32 × Int32 × Int32 × Int32 × Int32 × Int32 × Int32 × Ar × Ar) :=
  if (m_X4_isOutside v1 (0 : Int32) (1 : Int32)) = (0 : Int32) then (ob11 (m_X4_canWalk ct sg th he ma ro fi to ac wy fa fp thw hew maw row fiw tow) (fun r_2 ac_3 wy_4 fa_5 fp_6 thw_7 hew_8 maw_9 row_10 fiw_11 tow_12 => if r_2 = (0 : Int32) then (some ((-5 : Int32), ac_3, wy_4, fa_5, fp_6, thw_7, hew_8, maw_9, row_10, fiw_11, tow_12)) else (if v1 = (0 : Int32) then (some (fa_5, ac_3, wy_4, fa_5, fp_6, thw_7, hew_8, maw_9, row_10, fiw_11, tow_12)) else (some (fp_6, ac_3, wy_4, fa_5, fp_6, thw_7, hew_8, maw_9, row_10, fiw_11, tow_12))))) else (some ((-2 : Int32), ac, wy, fa, fp, thw, hew, maw, row, fiw, tow))
def m_X4_down (fi : Ar) : Option (Int32) :=
  ob1 (m_X3_downBits fi) (fun r_1 => some r_1)
def m_X4_shout (v1 : Int32) (th : Int32) (he : Int32) (fi : Ar) : Option (Int32) :=
  if (m_X4_isOutside v1 (1 : Int32) (12 : Int32)) = (0 : Int32) then (ob1 (m_X3_silentRoundsFor v1 th he fi) (fun r_2 => some r_2)) else (some (-2 : Int32))
def m_X4_horns (v1 : Int32) (v2 : Int32) (th : Int32) (fi : Ar) (to : Ar) : Option (Int32) :=
  if (m_X4_isOutside v1 (0 : Int32) (3 : Int32)) = (0 : Int32) then (if (m_X4_isOutside v2 (0 : Int32) (1 : Int32)) = (0 : Int32) then (ob1 (m_X3_bestHorns v1 th fi to) (fun r_3 => if v2 = (0 : Int32) then (ob1 (m_X3_downByHorns r_3 v1 th fi to) (fun r_6 => some r_6)) else (some r_3))) else (some (-2 : Int32))) else (some (-2 : Int32))
def m_X4_weakest (v1 : Int32) (v2 : Int32) (fi : Ar) : Option (Int32) :=
  if (m_X4_isOutside v1 (1 : Int32) (12 : Int32)) = (0 : Int32) then (if (m_X4_isOutside v2 (0 : Int32) (1 : Int32)) = (0 : Int32) then (ob1 (m_X3_weakestStretch v1 fi) (fun r_3 => if v2 = (0 : Int32) then (some r_3) else (ob1 (m_X3_firmTogether r_3 v1 fi) (fun r_6 => some r_6)))) else (some (-2 : Int32))) else (some (-2 : Int32))
def m_X4_turned (v0 : Int32) (v1 : Int32) : Int32 :=
  (((v0 <<< (v1 &&& 31)) ||| (v0 >>> (((12 : Int32) - v1) &&& 31))) &&& (4095 : Int32))
def b_X4_partsSeen_4 (k_4 : Int32 → Int32 → Option (Int32)) (v0 : Int32) (v1 : Int32) (v2 : Int32) (v3 : Int32) : Option (Int32) :=
  if v1 < v3 then (some v2) else (bnd ((v2 ||| ((m_X4_turned v0 v3) ||| (m_X4_turned v0 ((12 : Int32) - v3))))) (fun w_2 => k_4 w_2 (v3 + 1)))
def L_X4_partsSeen_4 (v0 : Int32) (v1 : Int32) : Nat → Int32 → Int32 → Option (Int32)
  | 0 => fun _ _ => none
  | n + 1 => fun v2 v3 => b_X4_partsSeen_4  (L_X4_partsSeen_4  v0 v1 n) v0 v1 v2 v3
def m_X4_partsSeen (v0 : Int32) (v1 : Int32) : Option (Int32) :=
  L_X4_partsSeen_4 v0 v1 fu v0 (1 : Int32)
def b_X4_fewestWatchers_10 (k_10 : Int32 → Int32 → Int32 → Option (Int32)) (v0 : Int32) (v1 : Int32) (v2 : Int32) (v3 : Int32) (v4 : Int32) : Option (Int32) :=
  if (4095 : Int32) ≤ v4 then (some v2) else (if v3 ≤ (m_J6_bitCount_0f7a4 v4) then (k_10 v2 v3 (v4 + 1)) else (ob1 (m_X4_partsSeen v4 v1) (fun r_3 => if (v0 &&& (r_3 ^^^ (-1 : Int32))) = (0 : Int32) then (k_10 v4 (m_J6_bitCount_0f7a4 v4) (v4 + 1)) else (k_10 v2 v3 (v4 + 1)))))
def L_X4_fewestWatchers_10 (v0 : Int32) (v1 : Int32) : Nat → Int32 → Int32 → Int32 → Option (Int32)
  | 0 => fun _ _ _ => none
  | n + 1 => fun v2 v3 v4 => b_X4_fewestWatchers_10  (L_X4_fewestWatchers_10  v0 v1 n) v0 v1 v2 v3 v4
def m_X4_fewestWatchers (v0 : Int32) (v1 : Int32) : Option (Int32) :=
  L_X4_fewestWatchers_10 v0 v1 fu (4095 : Int32) (12 : Int32) (0 : Int32)
def m_X4_watch (v1 : Int32) (v2 : Int32) (v3 : Int32) : Option (Int32) :=
  if (m_X4_isOutside v1 (0 : Int32) (4095 : Int32)) = (0 : Int32) then (if (m_X4_isOutside v2 (0 : Int32) (3 : Int32)) = (0 : Int32) then (if (m_X4_isOutside v3 (0 : Int32) (1 : Int32)) = (0 : Int32) then (ob1 (m_X4_fewestWatchers v1 v2) (fun r_4 => if v3 = (0 : Int32) then (some (m_J6_bitCount_0f7a4 r_4)) else (some r_4))) else (some (-2 : Int32))) else (some (-2 : Int32))) else (some (-2 : Int32))
def b_X4_tonesAnswering_4 (k_4 : Int32 → Int32 → Option (Int32)) (v0 : Int32) (v1 : Int32) (v2 : Int32) (v3 : Int32) : Option (Int32) :=
  if (10 : Int32) ≤ v3 then (some v2) else (if (m_X4_echo v0 v3) = v1 then (k_4 (v2 ||| ((1 : Int32) <<< (v3 &&& 31))) (v3 + 1)) else (k_4 v2 (v3 + 1)))
def L_X4_tonesAnswering_4 (v0 : Int32) (v1 : Int32) : Nat → Int32 → Int32 → Option (Int32)
  | 0 => fun _ _ => none
  | n + 1 => fun v2 v3 => b_X4_tonesAnswering_4  (L_X4_tonesAnswering_4  v0 v1 n) v0 v1 v2 v3
def m_X4_tonesAnswering (v0 : Int32) (v1 : Int32) : Option (Int32) :=
  L_X4_tonesAnswering_4 v0 v1 fu (0 : Int32) (0 : Int32)
def m_X4_seen (v1 : Int32) (v2 : Int32) (si : Int32) (ft : Int32) : Option (Int32 × Int32 × Int32) :=
  if (m_X4_isOutside v1 (0 : Int32) (9 : Int32)) = (0 : Int32) then (if (m_X4_isOutside v2 (0 : Int32) (2 : Int32)) = (0 : Int32) then (if si < (8 : Int32) then (ob1 (m_X4_tonesAnswering v1 v2) (fun r_4 => some ((si + (1 : Int32)), (si + (1 : Int32)), (ft &&& r_4)))) else (some ((-4 : Int32), si, ft))) else (some ((-2 : Int32), si, ft))) else (some ((-2 : Int32), si, ft))
def m_X4_forget (si : Int32) : Option (Int32 × Int32 × Int32) :=
  some (si, (0 : Int32), (1023 : Int32))
def m_X4_tones (ft : Int32) : Int32 :=
  ft
def b_X4_mostLeft_4 (k_4 : Int32 → Int32 → Option (Int32)) (v0 : Int32) (v1 : Int32) (v2 : Int32) (v3 : Int32) : Option (Int32) :=
  if (2 : Int32) < v3 then (some v2) else (ob1 (m_X4_tonesAnswering v1 v3) (fun r_2 => k_4 (imax v2 (m_J6_bitCount_0f7a4 (v0 &&& r_2))) (v3 + 1)))
def L_X4_mostLeft_4 (v0 : Int32) (v1 : Int32) : Nat → Int32 → Int32 → Option (Int32)
  | 0 => fun _ _ => none
  | n + 1 => fun v2 v3 => b_X4_mostLeft_4  (L_X4_mostLeft_4  v0 v1 n) v0 v1 v2 v3
def m_X4_mostLeft (v0 : Int32) (v1 : Int32) : Option (Int32) :=
  L_X4_mostLeft_4 v0 v1 fu (0 : Int32) (0 : Int32)
def b_X4_bestHornToAsk_10 (k_10 : Int32 → Int32 → Int32 → Option (Int32)) (v0 : Int32) (v1 : Int32) (v2 : Int32) (v3 : Int32) : Option (Int32) :=
  if (10 : Int32) ≤ v3 then (some v1) else (ob1 (m_X4_mostLeft v0 v3) (fun r_4 => if v2 ≤ r_4 then (k_10 v1 v2 (v3 + 1)) else (k_10 v3 r_4 (v3 + 1))))
def L_X4_bestHornToAsk_10 (v0 : Int32) : Nat → Int32 → Int32 → Int32 → Option (Int32)
  | 0 => fun _ _ _ => none
  | n + 1 => fun v1 v2 v3 => b_X4_bestHornToAsk_10  (L_X4_bestHornToAsk_10  v0 n) v0 v1 v2 v3
def m_X4_bestHornToAsk (v0 : Int32) : Option (Int32) :=
  ob1 (m_X4_mostLeft v0 (0 : Int32)) (fun r_1 => L_X4_bestHornToAsk_10 v0 fu (0 : Int32) r_1 (1 : Int32))
def m_X4_next (v1 : Int32) (ft : Int32) : Option (Int32) :=
  if (m_X4_isOutside v1 (0 : Int32) (1 : Int32)) = (0 : Int32) then (if ft = (0 : Int32) then (some (-6 : Int32)) else (ob1 (m_X4_bestHornToAsk ft) (fun r_3 => if v1 = (0 : Int32) then (some r_3) else (ob1 (m_X4_mostLeft ft r_3) (fun r_6 => some r_6))))) else (some (-2 : Int32))
def m_X4_chain (v1 : Int32) (ne : Ar) : Option (Int32) :=
  if (m_X4_isOutside v1 (0 : Int32) (255 : Int32)) = (0 : Int32) then (ob1 (m_X1_speakers v1 (0 : Int32) ne) (fun r_2 => some r_2)) else (some (-1 : Int32))
def m_X4_quiet (v1 : Int32) (v2 : Int32) (v3 : Int32) (ne : Ar) : Option (Int32) :=
  if (m_X4_isOutside v1 (0 : Int32) (255 : Int32)) = (0 : Int32) then (if (m_X4_isOutside v2 (0 : Int32) (8 : Int32)) = (0 : Int32) then (if (m_X4_isOutside v3 (0 : Int32) (1 : Int32)) = (0 : Int32) then (ob1 (m_X1_fewestSilent v1 v2 ne) (fun r_4 => if v3 = (0 : Int32) then (if r_4 = (-6 : Int32) then (some r_4) else (some (m_J6_bitCount_0f7a4 r_4))) else (some r_4))) else (some (-2 : Int32))) else (some (-2 : Int32))) else (some (-1 : Int32))
def b_X4_keptInTheMean_8 (k_8 : Int64 → Int64 → Int32 → Option (Int64)) (v0 : Int32) (v1 : Int32) (u2 : Int64) (u4 : Int64) (v6 : Int32) : Option (Int64) :=
  if v0 < v6 then (some u2) else (bnd ((((Int32.toInt64 ((10 : Int32) * v1)) * (u4 * (10 : Int64))) + ((Int32.toInt64 ((10 : Int32) - v1)) * u2))) (fun w_2 => k_8 (lmax ((Int32.toInt64 ((10 : Int32) * v6)) * (u4 * (10 : Int64))) w_2) (u4 * (10 : Int64)) (v6 + 1)))
def L_X4_keptInTheMean_8 (v0 : Int32) (v1 : Int32) : Nat → Int64 → Int64 → Int32 → Option (Int64)
  | 0 => fun _ _ _ => none
  | n + 1 => fun u2 u4 v6 => b_X4_keptInTheMean_8  (L_X4_keptInTheMean_8  v0 v1 n) v0 v1 u2 u4 v6
def m_X4_keptInTheMean (v0 : Int32) (v1 : Int32) : Option (Int64) :=
  L_X4_keptInTheMean_8 v0 v1 fu (0 : Int64) (1 : Int64) (1 : Int32)
def j_X4_commonDivisor_44 (u4 : Int64) : Option (Int64) :=
  some (lmax (1 : Int64) u4)
def b_X4_commonDivisor_9 (k_9 : Int64 → Int64 → Int32 → Option (Int64)) (u4 : Int64) (u6 : Int64) (v8 : Int32) : Option (Int64) :=
  if (100 : Int32) ≤ v8 then (j_X4_commonDivisor_44 u4) else (if (lg_cmp u6 (0 : Int64)) = (0 : Int32) then (j_X4_commonDivisor_44 u4) else (gd (nzl u6) (k_9 u6 (lrem u4 u6) (v8 + 1))))
def L_X4_commonDivisor_9 : Nat → Int64 → Int64 → Int32 → Option (Int64)
  | 0 => fun _ _ _ => none
  | n + 1 => fun u4 u6 v8 => b_X4_commonDivisor_9  (L_X4_commonDivisor_9   n)  u4 u6 v8
def m_X4_commonDivisor (u0 : Int64) (u2 : Int64) : Option (Int64) :=
  L_X4_commonDivisor_9 fu u0 u2 (0 : Int32)
def m_X4_water (v1 : Int32) (v2 : Int32) (v3 : Int32) (v4 : Int32) : Option (Int64) :=
  if (m_X4_isOutside v1 (0 : Int32) (9 : Int32)) = (0 : Int32) then (if (m_X4_isOutside v2 (0 : Int32) (10 : Int32)) = (0 : Int32) then (if (m_X4_isOutside v3 (0 : Int32) (1 : Int32)) = (0 : Int32) then (if (m_X4_isOutside v4 (0 : Int32) (1 : Int32)) = (0 : Int32) then (ob1 (m_X4_powerOfTen v1) (fun r_5 => ob1 (m_X4_keptInTheMean v1 v2) (fun r_7 => if v3 = (1 : Int32) then (if (lg_cmp r_7 ((Int32.toInt64 ((10 : Int32) * v1)) * (Int32.toInt64 r_5))) = (0 : Int32) then (some (1 : Int64)) else (some (0 : Int64))) else (ob1 (m_X4_commonDivisor (Int32.toInt64 r_5) r_7) (fun r_10 => if v4 = (0 : Int32) then (gd (nzl r_10) (some (r_7 / r_10))) else (gd (nzl r_10) (some ((Int32.toInt64 r_5) / r_10)))))))) else (some (-1000000000000000002 : Int64))) else (some (-1000000000000000002 : Int64))) else (some (-1000000000000000002 : Int64))) else (some (-1000000000000000002 : Int64))
def b_X4_lotsAmong_2 (k_2 : Int32 → Option (Int32)) (v0 : Int32) (v1 : Int32) : Option (Int32) :=
  if (30 : Int32) ≤ v1 then (some v1) else (if v0 ≤ ((1 : Int32) <<< (v1 &&& 31)) then (some v1) else (k_2 (v1 + 1)))
def L_X4_lotsAmong_2 (v0 : Int32) : Nat → Int32 → Option (Int32)
  | 0 => fun _ => none
  | n + 1 => fun v1 => b_X4_lotsAmong_2  (L_X4_lotsAmong_2  v0 n) v0 v1
def m_X4_lotsAmong (v0 : Int32) : Option (Int32) :=
  L_X4_lotsAmong_2 v0 fu (0 : Int32)
def m_X4_lots (v1 : Int32) (v2 : Int32) (v3 : Int32) (v4 : Int32) : Option (Int32) :=
  if (m_X4_isOutside v1 (1 : Int32) (20 : Int32)) = (0 : Int32) then (if (m_X4_isOutside v2 (1 : Int32) (20 : Int32)) = (0 : Int32) then (if (m_X4_isOutside v3 (1 : Int32) (20 : Int32)) = (0 : Int32) then (if (m_X4_isOutside v4 (0 : Int32) (1 : Int32)) = (0 : Int32) then (if v4 = (0 : Int32) then (ob1 (m_X4_lotsAmong ((v1 * v2) * v3)) (fun r_12 => some r_12)) else (ob1 (m_X4_lotsAmong v1) (fun r_6 => ob1 (m_X4_lotsAmong v2) (fun r_8 => ob1 (m_X4_lotsAmong v3) (fun r_10 => some ((r_6 + r_8) + r_10)))))) else (some (-2 : Int32))) else (some (-2 : Int32))) else (some (-2 : Int32))) else (some (-2 : Int32))
def m_X4_day (v1 : Int32) (v2 : Int32) (v3 : Int32) (th : Int32) (he : Int32) (ma : Int32) (ro : Int32) (fi : Ar) (to : Ar) (thw : Int32) (hew : Int32) (maw : Int32) (row : Int32) (fiw : Ar) (tow : Ar) : Option (Int32 × Int32 × Int32 × Int32 × Int32 × Ar × Ar) :=
  if (m_X4_isOutside v1 (0 : Int32) (9999 : Int32)) = (0 : Int32) then (if (m_X4_isOutside v2 (1 : Int32) (99 : Int32)) = (0 : Int32) then (if (m_X4_isOutside v3 (0 : Int32) (2 : Int32)) = (0 : Int32) then (ob6 (m_X3_copyFrom fiw tow th he ma ro fi to) (fun thw_4 hew_5 maw_6 row_7 fiw_8 tow_9 => ob3 (m_X3_live v1 v2 thw_4 hew_5 maw_6 row_7 fiw_8 tow_9) (fun hew_11 row_12 fiw_13 => if v3 = (0 : Int32) then (ob1 (m_X3_downBits fiw_13) (fun r_16 => some ((m_J6_bitCount_0f7a4 r_16), thw_4, hew_11, maw_6, row_12, fiw_13, tow_9))) else (if v3 = (1 : Int32) then (some (hew_11, thw_4, hew_11, maw_6, row_12, fiw_13, tow_9)) else (some (row_12, thw_4, hew_11, maw_6, row_12, fiw_13, tow_9)))))) else (some ((-2 : Int32), thw, hew, maw, row, fiw, tow))) else (some ((-2 : Int32), thw, hew, maw, row, fiw, tow))) else (some ((-2 : Int32), thw, hew, maw, row, fiw, tow))
def m_X4_told (v1 : Int32) (ct : Int32) (si : Int32) (th : Int32) (he : Int32) (ma : Int32) (ro : Int32) (fi : Ar) (to : Ar) (ne : Ar) : Option (Int32) :=
  if (m_X4_isOutside v1 (10 : Int32) (21 : Int32)) = (0 : Int32) then (gd (inb (v1 - (10 : Int32)) 12) (some (fi (Int32.toNatClampNeg (v1 - (10 : Int32)))))) else (if (m_X4_isOutside v1 (30 : Int32) (41 : Int32)) = (0 : Int32) then (gd (inb (v1 - (30 : Int32)) 12) (some (to (Int32.toNatClampNeg (v1 - (30 : Int32)))))) else (if (m_X4_isOutside v1 (50 : Int32) (57 : Int32)) = (0 : Int32) then (gd (inb (v1 - (50 : Int32)) 8) (some (ne (Int32.toNatClampNeg (v1 - (50 : Int32)))))) else (if v1 = (0 : Int32) then (some ct) else (if v1 = (1 : Int32) then (some ro) else (if v1 = (2 : Int32) then (some he) else (if v1 = (3 : Int32) then (some ma) else (if v1 = (4 : Int32) then (some th) else (if v1 = (5 : Int32) then (some si) else (some (-2 : Int32))))))))))
def m_X5_in (v0 : Int32) (v1 : Int32) (v2 : Int32) : Int32 :=
  if v0 < v1 then ((0 : Int32)) else (if v2 < v0 then ((0 : Int32)) else ((1 : Int32)))
def m_X5_has (v0 : Int32) (v1 : Int32) : Int32 :=
  if ((v0 >>> (v1 &&& 31)) &&& (1 : Int32)) = (1 : Int32) then ((1 : Int32)) else ((0 : Int32))
def b_X5_bits_4 (k_4 : Int32 → Int32 → Option (Int32)) (v0 : Int32) (v1 : Int32) (v2 : Int32) : Option (Int32) :=
  if (12 : Int32) ≤ v2 then (some v1) else (k_4 (v1 + ((v0 >>> (v2 &&& 31)) &&& (1 : Int32))) (v2 + 1))
def L_X5_bits_4 (v0 : Int32) : Nat → Int32 → Int32 → Option (Int32)
  | 0 => fun _ _ => none
  | n + 1 => fun v1 v2 => b_X5_bits_4  (L_X5_bits_4  v0 n) v0 v1 v2
def m_X5_bits (v0 : Int32) : Option (Int32) :=
  L_X5_bits_4 v0 fu (0 : Int32) (0 : Int32)
def m_X5_isPart (v0 : Int32) : Option (Int32) :=
  gd (z01 (m_X5_in v0 (0 : Int32) (11 : Int32))) (some (m_X5_in v0 (0 : Int32) (11 : Int32)))
def m_X5_part (v1 : Int32) (v2 : Int32) (v3 : Int32) (bk : Ar) (to : Ar) : Option (Int32 × Ar × Ar) :=
  ob1 (m_X5_isPart v1) (fun r_1 => if r_1 = (0 : Int32) then (some ((-1 : Int32), bk, to)) else (if (m_X5_in v2 (0 : Int32) (99 : Int32)) = (0 : Int32) then (some ((-2 : Int32), bk, to)) else (if (m_X5_in v3 (0 : Int32) (9 : Int32)) = (0 : Int32) then (some ((-2 : Int32), bk, to)) else (gd (inb v1 15) (gd (inb v1 12) (some ((bk (Int32.toNatClampNeg v1)), (upd bk (Int32.toNatClampNeg v1) v2), (upd to (Int32.toNatClampNeg v1) v3))))))))
def j_X5_thread_39 (s39_0 : Int32) (s39_1 : Int32) : Option (Int32 × Int32) :=
  ob1 (m_X5_bits (s39_1 ||| s39_0)) (fun r_5 => some (r_5, (s39_1 ||| s39_0)))
def m_X5_thread (v1 : Int32) (v2 : Int32) (th : Int32) : Option (Int32 × Int32) :=
  ob1 (m_X5_isPart v1) (fun r_1 => if r_1 = (0 : Int32) then (some ((-1 : Int32), th)) else (if v2 = (0 : Int32) then (j_X5_thread_39 (0 : Int32) (th &&& (((1 : Int32) <<< (v1 &&& 31)) ^^^ (-1 : Int32)))) else (j_X5_thread_39 ((1 : Int32) <<< (v1 &&& 31)) (th &&& (((1 : Int32) <<< (v1 &&& 31)) ^^^ (-1 : Int32))))))
def j_X5_set_39 (v1 : Int32) (v2 : Int32) (s39_0 : Int32) (bk : Ar) : Option (Int32 × Ar) :=
  if s39_0 = (0 : Int32) then (some ((-2 : Int32), bk)) else (gd (inb ((12 : Int32) + v1) 15) (some ((bk (Int32.toNatClampNeg ((12 : Int32) + v1))), (upd bk (Int32.toNatClampNeg ((12 : Int32) + v1)) v2))))
def m_X5_set (v1 : Int32) (v2 : Int32) (bk : Ar) : Option (Int32 × Ar) :=
  if v1 = (1 : Int32) then (j_X5_set_39 v1 v2 (m_X5_in v2 (0 : Int32) (12 : Int32)) bk) else (if (m_X5_in v1 (0 : Int32) (2 : Int32)) = (0 : Int32) then (j_X5_set_39 v1 v2 (0 : Int32) bk) else (if (m_X5_in v2 (0 : Int32) (99 : Int32)) = (0 : Int32) then (j_X5_set_39 v1 v2 (0 : Int32) bk) else (j_X5_set_39 v1 v2 (1 : Int32) bk)))
def m_X5_man (v1 : Int32) (v2 : Int32) (ne : Ar) : Option (Int32 × Ar) :=
  if (m_X5_in v1 (0 : Int32) (7 : Int32)) = (0 : Int32) then (some ((-1 : Int32), ne)) else (if (m_X5_in v2 (0 : Int32) (8 : Int32)) = (0 : Int32) then (some ((-2 : Int32), ne)) else (gd (inb v1 8) (some ((ne (Int32.toNatClampNeg v1)), (upd ne (Int32.toNatClampNeg v1) v2)))))
def m_X5_say (v1 : Int32) (sn : Int32) (pd : Ar) : Option (Int32 × Int32 × Ar) :=
  if (m_X5_in v1 (33 : Int32) (126 : Int32)) = (0 : Int32) then (some ((-2 : Int32), sn, pd)) else (if sn = (60 : Int32) then (some ((-4 : Int32), sn, pd)) else (gd (inb sn 60) (some ((sn + (1 : Int32)), (sn + (1 : Int32)), (upd pd (Int32.toNatClampNeg sn) v1)))))
def m_X5_wipe (sn : Int32) : Option (Int32 × Int32) :=
  some (sn, (0 : Int32))
def j_X5_faultOf_63 (k_4 : Int32 → Int32 → Option (Int32)) (v1 : Int32) (v2 : Int32) (v3 : Int32) (s63_0 : Int32) : Option (Int32) :=
  if s63_0 = (0 : Int32) then (some v2) else (if v1 = (0 : Int32) then (if v3 = (104 : Int32) then (k_4 (1 : Int32) (v2 + 1)) else (k_4 (0 : Int32) (v2 + 1))) else (k_4 (0 : Int32) (v2 + 1)))
def b_X5_faultOf_4 (k_4 : Int32 → Int32 → Option (Int32)) (sn : Int32) (pd : Ar) (v1 : Int32) (v2 : Int32) : Option (Int32) :=
  if sn ≤ v2 then (if v1 = (0 : Int32) then (some (-6 : Int32)) else (some sn)) else (gd (inb v2 60) (if v1 = (0 : Int32) then (if (pd (Int32.toNatClampNeg v2)) = (46 : Int32) then (j_X5_faultOf_63 k_4 v1 v2 (pd (Int32.toNatClampNeg v2)) (1 : Int32)) else (if (pd (Int32.toNatClampNeg v2)) = (104 : Int32) then (j_X5_faultOf_63 k_4 v1 v2 (pd (Int32.toNatClampNeg v2)) (1 : Int32)) else (if (pd (Int32.toNatClampNeg v2)) = (33 : Int32) then (j_X5_faultOf_63 k_4 v1 v2 (pd (Int32.toNatClampNeg v2)) (1 : Int32)) else (if (pd (Int32.toNatClampNeg v2)) = (110 : Int32) then (j_X5_faultOf_63 k_4 v1 v2 (pd (Int32.toNatClampNeg v2)) (1 : Int32)) else (j_X5_faultOf_63 k_4 v1 v2 (pd (Int32.toNatClampNeg v2)) (0 : Int32)))))) else (j_X5_faultOf_63 k_4 v1 v2 (pd (Int32.toNatClampNeg v2)) (m_X5_in (pd (Int32.toNatClampNeg v2)) (48 : Int32) (57 : Int32)))))
def L_X5_faultOf_4 (sn : Int32) (pd : Ar) : Nat → Int32 → Int32 → Option (Int32)
  | 0 => fun _ _ => none
  | n + 1 => fun v1 v2 => b_X5_faultOf_4  (L_X5_faultOf_4  sn pd n) sn pd v1 v2
def m_X5_faultOf (sn : Int32) (pd : Ar) : Option (Int32) :=
  L_X5_faultOf_4 sn pd fu (0 : Int32) (0 : Int32)
def m_X5_fault (sn : Int32) (pd : Ar) : Option (Int32) :=
  ob1 (m_X5_faultOf sn pd) (fun r_1 => some r_1)
def b_X5_asNow_2 (k_2 : Int32 → Ar → Option (Ar)) (bk : Ar) (v1 : Int32) (nw : Ar) : Option (Ar) :=
  if (15 : Int32) ≤ v1 then (some nw) else (gd (inb v1 15) (k_2 (v1 + 1) (upd nw (Int32.toNatClampNeg v1) (bk (Int32.toNatClampNeg v1)))))
def L_X5_asNow_2 (bk : Ar) : Nat → Int32 → Ar → Option (Ar)
  | 0 => fun _ _ => none
  | n + 1 => fun v1 nw => b_X5_asNow_2  (L_X5_asNow_2  bk n) bk v1 nw
def m_X5_asNow (bk : Ar) (nw : Ar) : Option (Ar) :=
  L_X5_asNow_2 bk fu (0 : Int32) nw
def j_X5_less_55 (s55_0 : Int32) (s55_1 : Int32) (nw : Ar) : Option (Ar) :=
  gd (inb s55_1 15) (some (upd nw (Int32.toNatClampNeg s55_1) s55_0))
def j_X5_less_25 (v1 : Int32) (v2 : Int32) (s25_0 : Int32) (nw : Ar) : Option (Ar) :=
  gd (inb v1 15) (if s25_0 ≤ ((nw (Int32.toNatClampNeg v1)) - v2) then (j_X5_less_55 ((nw (Int32.toNatClampNeg v1)) - v2) v1 nw) else (j_X5_less_55 s25_0 v1 nw))
def m_X5_less (v1 : Int32) (v2 : Int32) (th : Int32) (nw : Ar) : Option (Ar) :=
  if (m_X5_has th v1) = (0 : Int32) then (j_X5_less_25 v1 v2 (0 : Int32) nw) else (gd (inb v1 15) (if (nw (Int32.toNatClampNeg v1)) ≤ (0 : Int32) then (j_X5_less_25 v1 v2 (0 : Int32) nw) else (j_X5_less_25 v1 v2 (1 : Int32) nw)))
def j_X5_shakes_14 (s14_0 : Int32) : Int32 :=
  if s14_0 ≤ (2 : Int32) then (((2 : Int32) - s14_0)) else ((0 : Int32))
def m_X5_shakes (v0 : Int32) (v1 : Int32) : Int32 :=
  if v0 ≤ v1 then (j_X5_shakes_14 (v1 - v0)) else (j_X5_shakes_14 (v0 - v1))
def b_X5_blow_2 (k_2 : Int32 → Ar → Option (Ar)) (v1 : Int32) (th : Int32) (to : Ar) (v2 : Int32) (nw : Ar) : Option (Ar) :=
  if (12 : Int32) ≤ v2 then (some nw) else (gd (inb v2 12) (ob1 (m_X5_less v2 (m_X5_shakes v1 (to (Int32.toNatClampNeg v2))) th nw) (fun nw_3 => k_2 (v2 + 1) nw_3)))
def L_X5_blow_2 (v1 : Int32) (th : Int32) (to : Ar) : Nat → Int32 → Ar → Option (Ar)
  | 0 => fun _ _ => none
  | n + 1 => fun v2 nw => b_X5_blow_2  (L_X5_blow_2  v1 th to n) v1 th to v2 nw
def m_X5_blow (v1 : Int32) (th : Int32) (nw : Ar) (to : Ar) : Option (Ar) :=
  L_X5_blow_2 v1 th to fu (0 : Int32) nw
def b_X5_cry_2 (k_2 : Int32 → Ar → Option (Ar)) (th : Int32) (v1 : Int32) (nw : Ar) : Option (Ar) :=
  if (12 : Int32) ≤ v1 then (some (upd nw 12 (0 : Int32))) else (ob1 (m_X5_less v1 (nw 12) th nw) (fun nw_2 => k_2 (v1 + 1) nw_2))
def L_X5_cry_2 (th : Int32) : Nat → Int32 → Ar → Option (Ar)
  | 0 => fun _ _ => none
  | n + 1 => fun v1 nw => b_X5_cry_2  (L_X5_cry_2  th n) th v1 nw
def m_X5_cry (th : Int32) (nw : Ar) : Option (Ar) :=
  L_X5_cry_2 th fu (0 : Int32) nw
def j_X5_mend_64 (k_4 : Int32 → Int32 → Option (Ar)) (k_21 : Int32 → Int32 → Option (Ar)) (v3 : Int32) (v4 : Int32) (s64_0 : Int32) (nw : Ar) : Option (Ar) :=
  if s64_0 = (0 : Int32) then (k_21 v3 (v4 + 1)) else (if v3 < (0 : Int32) then (k_21 v4 (v4 + 1)) else (gd (inb v4 15) (gd (inb v3 15) (if (nw (Int32.toNatClampNeg v3)) ≤ (nw (Int32.toNatClampNeg v4)) then (k_21 v3 (v4 + 1)) else (k_21 v4 (v4 + 1))))))
def b_X5_mend_21 (k_4 : Int32 → Int32 → Option (Ar)) (k_21 : Int32 → Int32 → Option (Ar)) (v1 : Int32) (v2 : Int32) (nw : Ar) (v3 : Int32) (v4 : Int32) : Option (Ar) :=
  if (12 : Int32) ≤ v4 then (if (0 : Int32) ≤ v3 then (k_4 (v1 ||| ((1 : Int32) <<< (v3 &&& 31))) (v2 + 1)) else (k_4 (v1 ||| (0 : Int32)) (v2 + 1))) else (if (m_X5_has v1 v4) = (0 : Int32) then (gd (inb v4 15) (if (nw (Int32.toNatClampNeg v4)) ≤ (0 : Int32) then (j_X5_mend_64 k_4 k_21 v3 v4 (0 : Int32) nw) else (if (99 : Int32) ≤ (nw (Int32.toNatClampNeg v4)) then (j_X5_mend_64 k_4 k_21 v3 v4 (0 : Int32) nw) else (j_X5_mend_64 k_4 k_21 v3 v4 (1 : Int32) nw)))) else (j_X5_mend_64 k_4 k_21 v3 v4 (0 : Int32) nw))
def L_X5_mend_21 (k_4 : Int32 → Int32 → Option (Ar)) (v1 : Int32) (v2 : Int32) (nw : Ar) : Nat → Int32 → Int32 → Option (Ar)
  | 0 => fun _ _ => none
  | n + 1 => fun v3 v4 => b_X5_mend_21 k_4 (L_X5_mend_21 k_4 v1 v2 nw n) v1 v2 nw v3 v4
def j_X5_mend_152 (k_126 : Int32 → Ar → Option (Ar)) (v2 : Int32) (s152_0 : Int32) (s152_1 : Int32) (s152_2 : Int32) (nw : Ar) : Option (Ar) :=
  gd (inb s152_2 15) (k_126 (v2 + 1) (upd nw (Int32.toNatClampNeg s152_2) (s152_1 + s152_0)))
def b_X5_mend_126 (k_126 : Int32 → Ar → Option (Ar)) (v1 : Int32) (v2 : Int32) (nw : Ar) : Option (Ar) :=
  if (12 : Int32) ≤ v2 then (some nw) else (gd (inb v2 15) (if (m_X5_has v1 v2) = (0 : Int32) then (j_X5_mend_152 k_126 v2 (0 : Int32) (nw (Int32.toNatClampNeg v2)) v2 nw) else (j_X5_mend_152 k_126 v2 (1 : Int32) (nw (Int32.toNatClampNeg v2)) v2 nw)))
def L_X5_mend_126 (v1 : Int32) : Nat → Int32 → Ar → Option (Ar)
  | 0 => fun _ _ => none
  | n + 1 => fun v2 nw => b_X5_mend_126  (L_X5_mend_126  v1 n) v1 v2 nw
def b_X5_mend_4 (k_4 : Int32 → Int32 → Option (Ar)) (nw : Ar) (v1 : Int32) (v2 : Int32) : Option (Ar) :=
  if (nw 13) ≤ v2 then (L_X5_mend_126 v1 fu (0 : Int32) nw) else (L_X5_mend_21 k_4 v1 v2 nw fu (-6 : Int32) (0 : Int32))
def L_X5_mend_4 (nw : Ar) : Nat → Int32 → Int32 → Option (Ar)
  | 0 => fun _ _ => none
  | n + 1 => fun v1 v2 => b_X5_mend_4  (L_X5_mend_4  nw n) nw v1 v2
def m_X5_mend (nw : Ar) : Option (Ar) :=
  L_X5_mend_4 nw fu (0 : Int32) (0 : Int32)
def j_X5_whyNot_17 (v1 : Int32) (s17_0 : Int32) (nw : Ar) : Int32 :=
  if s17_0 = (0 : Int32) then (if v1 = (33 : Int32) then (if (nw 12) = (0 : Int32) then ((2 : Int32)) else ((0 : Int32))) else (if (nw 13) = (0 : Int32) then ((3 : Int32)) else ((0 : Int32)))) else (if (nw 14) = (99 : Int32) then ((1 : Int32)) else ((0 : Int32)))
def m_X5_whyNot (v1 : Int32) (nw : Ar) : Int32 :=
  if v1 = (46 : Int32) then (j_X5_whyNot_17 v1 (1 : Int32) nw) else (if v1 = (104 : Int32) then (j_X5_whyNot_17 v1 (1 : Int32) nw) else (j_X5_whyNot_17 v1 (0 : Int32) nw))
def j_X5_act_61 (s61_0 : Int32) (s61_1 : Int32) (s61_2 : Int32) (nw : Ar) : Option (Ar) :=
  gd (inb s61_2 15) (bnd ((((upd nw (Int32.toNatClampNeg s61_2) (s61_1 + s61_0)) 14) + (1 : Int32))) (fun w_12 => some (upd (upd nw (Int32.toNatClampNeg s61_2) (s61_1 + s61_0)) 14 w_12)))
def m_X5_act (v1 : Int32) (v2 : Int32) (th : Int32) (nw : Ar) (to : Ar) : Option (Ar) :=
  if v1 = (33 : Int32) then (ob1 (m_X5_cry th nw) (fun nw_2 => some nw_2)) else (if v1 = (46 : Int32) then (if (99 : Int32) ≤ (nw 12) then (j_X5_act_61 (0 : Int32) (nw 12) (12 : Int32) nw) else (j_X5_act_61 (1 : Int32) (nw 12) (12 : Int32) nw)) else (if v1 = (104 : Int32) then (ob1 (m_X5_blow v2 th nw to) (fun nw_7 => some (upd nw_7 14 ((nw_7 14) + (1 : Int32))))) else (ob1 (m_X5_mend nw) (fun nw_9 => some nw_9))))
def b_X5_downSet_4 (k_4 : Int32 → Int32 → Option (Int32)) (nw : Ar) (v1 : Int32) (v2 : Int32) : Option (Int32) :=
  if (12 : Int32) ≤ v2 then (some v1) else (gd (inb v2 15) (if (nw (Int32.toNatClampNeg v2)) = (0 : Int32) then (k_4 (v1 ||| ((1 : Int32) <<< (v2 &&& 31))) (v2 + 1)) else (k_4 (v1 ||| (0 : Int32)) (v2 + 1))))
def L_X5_downSet_4 (nw : Ar) : Nat → Int32 → Int32 → Option (Int32)
  | 0 => fun _ _ => none
  | n + 1 => fun v1 v2 => b_X5_downSet_4  (L_X5_downSet_4  nw n) nw v1 v2
def m_X5_downSet (nw : Ar) : Option (Int32) :=
  L_X5_downSet_4 nw fu (0 : Int32) (0 : Int32)
def j_X5_goRounds_130 (k_23 : Int32 → Int32 → Int32 → Int32 → Int32 → Ar → Option (Int32 × Int32 × Int32 × Int32 × Int32 × Ar)) (k_107 : Int32 → Int32 → Int32 → Option (Int32 × Int32 × Int32 × Int32 × Int32 × Ar)) (v5 : Int32) (v6 : Int32) (ac : Int32) (fa : Int32) (fw : Int32) : Option (Int32 × Int32 × Int32 × Int32 × Int32 × Ar) :=
  if (m_X5_has v5 v6) = (0 : Int32) then (k_107 (v6 + (-1)) fa fw) else (k_107 (v6 + (-1)) ac v6)
def j_X5_goRounds_160 (k_23 : Int32 → Int32 → Int32 → Int32 → Int32 → Ar → Option (Int32 × Int32 × Int32 × Int32 × Int32 × Ar)) (v1 : Int32) (re : Int32) (ac : Int32) (fa : Int32) (fw : Int32) (nw : Ar) : Option (Int32 × Int32 × Int32 × Int32 × Int32 × Ar) :=
  k_23 (v1 + 1) re (ac + (1 : Int32)) fa fw nw
def b_X5_goRounds_107 (k_23 : Int32 → Int32 → Int32 → Int32 → Int32 → Ar → Option (Int32 × Int32 × Int32 × Int32 × Int32 × Ar)) (k_107 : Int32 → Int32 → Int32 → Option (Int32 × Int32 × Int32 × Int32 × Int32 × Ar)) (v1 : Int32) (v5 : Int32) (re : Int32) (ac : Int32) (nw : Ar) (v6 : Int32) (fa : Int32) (fw : Int32) : Option (Int32 × Int32 × Int32 × Int32 × Int32 × Ar) :=
  if v6 < (0 : Int32) then (j_X5_goRounds_160 k_23 v1 re ac fa fw nw) else (if fa < (0 : Int32) then (j_X5_goRounds_130 k_23 k_107 v5 v6 ac fa fw) else (if fa = ac then (j_X5_goRounds_130 k_23 k_107 v5 v6 ac fa fw) else (j_X5_goRounds_160 k_23 v1 re ac fa fw nw)))
def L_X5_goRounds_107 (k_23 : Int32 → Int32 → Int32 → Int32 → Int32 → Ar → Option (Int32 × Int32 × Int32 × Int32 × Int32 × Ar)) (v1 : Int32) (v5 : Int32) (re : Int32) (ac : Int32) (nw : Ar) : Nat → Int32 → Int32 → Int32 → Option (Int32 × Int32 × Int32 × Int32 × Int32 × Ar)
  | 0 => fun _ _ _ => none
  | n + 1 => fun v6 fa fw => b_X5_goRounds_107 k_23 (L_X5_goRounds_107 k_23 v1 v5 re ac nw n) v1 v5 re ac nw v6 fa fw
def j_X5_goRounds_59 (k_23 : Int32 → Int32 → Int32 → Int32 → Int32 → Ar → Option (Int32 × Int32 × Int32 × Int32 × Int32 × Ar)) (v1 : Int32) (v2 : Int32) (v3 : Int32) (th : Int32) (ac : Int32) (fa : Int32) (fw : Int32) (nw : Ar) (to : Ar) : Option (Int32 × Int32 × Int32 × Int32 × Int32 × Ar) :=
  if (m_X5_whyNot v2 nw) ≤ (0 : Int32) then (ob1 (m_X5_downSet nw) (fun r_8 => ob1 (m_X5_act v2 v3 th nw to) (fun nw_10 => ob1 (m_X5_downSet nw_10) (fun r_12 => L_X5_goRounds_107 k_23 v1 (r_12 &&& (r_8 ^^^ (-1 : Int32))) (m_X5_whyNot v2 nw) ac nw_10 fu (11 : Int32) fa fw)))) else (some (ac, (m_X5_whyNot v2 nw), ac, fa, fw, nw))
def b_X5_goRounds_23 (k_23 : Int32 → Int32 → Int32 → Int32 → Int32 → Ar → Option (Int32 × Int32 × Int32 × Int32 × Int32 × Ar)) (th : Int32) (sn : Int32) (to : Ar) (pd : Ar) (v1 : Int32) (re : Int32) (ac : Int32) (fa : Int32) (fw : Int32) (nw : Ar) : Option (Int32 × Int32 × Int32 × Int32 × Int32 × Ar) :=
  if sn ≤ v1 then (some ((-6 : Int32), re, ac, fa, fw, nw)) else (gd (inb v1 60) (if (pd (Int32.toNatClampNeg v1)) = (104 : Int32) then (gd (inb (v1 + 1) 60) (j_X5_goRounds_59 k_23 (v1 + 1) (pd (Int32.toNatClampNeg v1)) ((pd (Int32.toNatClampNeg (v1 + 1))) - (48 : Int32)) th ac fa fw nw to)) else (j_X5_goRounds_59 k_23 v1 (pd (Int32.toNatClampNeg v1)) (0 : Int32) th ac fa fw nw to)))
def L_X5_goRounds_23 (th : Int32) (sn : Int32) (to : Ar) (pd : Ar) : Nat → Int32 → Int32 → Int32 → Int32 → Int32 → Ar → Option (Int32 × Int32 × Int32 × Int32 × Int32 × Ar)
  | 0 => fun _ _ _ _ _ _ => none
  | n + 1 => fun v1 re ac fa fw nw => b_X5_goRounds_23  (L_X5_goRounds_23  th sn to pd n) th sn to pd v1 re ac fa fw nw
def m_X5_goRounds (th : Int32) (sn : Int32) (re : Int32) (bk : Ar) (nw : Ar) (to : Ar) (pd : Ar) : Option (Int32 × Int32 × Int32 × Int32 × Int32 × Ar) :=
  ob1 (m_X5_asNow bk nw) (fun nw_1 => L_X5_goRounds_23 th sn to pd fu (0 : Int32) re (0 : Int32) (-6 : Int32) (-6 : Int32) nw_1)
def m_X5_judge (v1 : Int32) (th : Int32) (sn : Int32) (re : Int32) (ac : Int32) (fa : Int32) (fw : Int32) (bk : Ar) (nw : Ar) (to : Ar) (pd : Ar) : Option (Int32 × Int32 × Int32 × Int32 × Int32 × Ar) :=
  if (m_X5_in v1 (0 : Int32) (1 : Int32)) = (0 : Int32) then (some ((-2 : Int32), re, ac, fa, fw, nw)) else (ob1 (m_X5_faultOf sn pd) (fun r_2 => if r_2 < (0 : Int32) then (ob6 (m_X5_goRounds th sn re bk nw to pd) (fun r_5 re_6 ac_7 fa_8 fw_9 nw_10 => if r_5 < (0 : Int32) then (some (r_5, re_6, ac_7, fa_8, fw_9, nw_10)) else (if v1 = (0 : Int32) then (some (r_5, re_6, ac_7, fa_8, fw_9, nw_10)) else (some (re_6, re_6, ac_7, fa_8, fw_9, nw_10))))) else (some ((-5 : Int32), re, ac, fa, fw, nw))))
def m_X5_barOfRounds (th : Int32) (sn : Int32) (re : Int32) (ac : Int32) (fa : Int32) (fw : Int32) (bk : Ar) (nw : Ar) (to : Ar) (pd : Ar) : Option (Int32 × Int32 × Int32 × Int32 × Int32 × Ar) :=
  ob1 (m_X5_faultOf sn pd) (fun r_1 => if (0 : Int32) ≤ r_1 then (some ((-5 : Int32), re, ac, fa, fw, nw)) else (ob6 (m_X5_goRounds th sn re bk nw to pd) (fun r_4 re_5 ac_6 fa_7 fw_8 nw_9 => if r_4 < (0 : Int32) then (some ((0 : Int32), re_5, ac_6, fa_7, fw_8, nw_9)) else (some ((-5 : Int32), re_5, ac_6, fa_7, fw_8, nw_9)))))
def b_X5_done_12 (k_12 : Int32 → Ar → Option (Int32 × Int32 × Int32 × Int32 × Int32 × Int32 × Ar × Ar)) (re : Int32) (ac : Int32) (fa : Int32) (fw : Int32) (nw : Ar) (v1 : Int32) (bk : Ar) : Option (Int32 × Int32 × Int32 × Int32 × Int32 × Int32 × Ar × Ar) :=
  if (15 : Int32) ≤ v1 then (some (ac, (0 : Int32), re, ac, fa, fw, bk, nw)) else (gd (inb v1 15) (k_12 (v1 + 1) (upd bk (Int32.toNatClampNeg v1) (nw (Int32.toNatClampNeg v1)))))
def L_X5_done_12 (re : Int32) (ac : Int32) (fa : Int32) (fw : Int32) (nw : Ar) : Nat → Int32 → Ar → Option (Int32 × Int32 × Int32 × Int32 × Int32 × Int32 × Ar × Ar)
  | 0 => fun _ _ => none
  | n + 1 => fun v1 bk => b_X5_done_12  (L_X5_done_12  re ac fa fw nw n) re ac fa fw nw v1 bk
def m_X5_done (th : Int32) (sn : Int32) (re : Int32) (ac : Int32) (fa : Int32) (fw : Int32) (bk : Ar) (nw : Ar) (to : Ar) (pd : Ar) : Option (Int32 × Int32 × Int32 × Int32 × Int32 × Int32 × Ar × Ar) :=
  ob6 (m_X5_barOfRounds th sn re ac fa fw bk nw to pd) (fun r_1 re_2 ac_3 fa_4 fw_5 nw_6 => if (0 : Int32) ≤ r_1 then (L_X5_done_12 re_2 ac_3 fa_4 fw_5 nw_6 fu (0 : Int32) bk) else (some ((-5 : Int32), sn, re_2, ac_3, fa_4, fw_5, bk, nw_6)))
def m_X5_behind (v1 : Int32) (th : Int32) (sn : Int32) (re : Int32) (ac : Int32) (fa : Int32) (fw : Int32) (bk : Ar) (nw : Ar) (to : Ar) (pd : Ar) : Option (Int32 × Int32 × Int32 × Int32 × Int32 × Ar) :=
  ob1 (m_X5_isPart v1) (fun r_1 => if r_1 = (0 : Int32) then (some ((-1 : Int32), re, ac, fa, fw, nw)) else (ob6 (m_X5_barOfRounds th sn re ac fa fw bk nw to pd) (fun r_4 re_5 ac_6 fa_7 fw_8 nw_9 => if (0 : Int32) ≤ r_4 then (gd (inb v1 15) (some ((nw_9 (Int32.toNatClampNeg v1)), re_5, ac_6, fa_7, fw_8, nw_9))) else (some ((-5 : Int32), re_5, ac_6, fa_7, fw_8, nw_9)))))
def m_X5_then (v1 : Int32) (th : Int32) (sn : Int32) (re : Int32) (ac : Int32) (fa : Int32) (fw : Int32) (bk : Ar) (nw : Ar) (to : Ar) (pd : Ar) : Option (Int32 × Int32 × Int32 × Int32 × Int32 × Ar) :=
  if (m_X5_in v1 (0 : Int32) (2 : Int32)) = (0 : Int32) then (some ((-2 : Int32), re, ac, fa, fw, nw)) else (ob6 (m_X5_barOfRounds th sn re ac fa fw bk nw to pd) (fun r_2 re_3 ac_4 fa_5 fw_6 nw_7 => if (0 : Int32) ≤ r_2 then (if v1 = (0 : Int32) then (ob1 (m_X5_downSet nw_7) (fun r_12 => some (r_12, re_3, ac_4, fa_5, fw_6, nw_7))) else (if v1 = (1 : Int32) then (some ((nw_7 12), re_3, ac_4, fa_5, fw_6, nw_7)) else (some ((nw_7 14), re_3, ac_4, fa_5, fw_6, nw_7)))) else (some ((-5 : Int32), re_3, ac_4, fa_5, fw_6, nw_7))))
def m_X5_fell (v1 : Int32) (th : Int32) (sn : Int32) (re : Int32) (ac : Int32) (fa : Int32) (fw : Int32) (bk : Ar) (nw : Ar) (to : Ar) (pd : Ar) : Option (Int32 × Int32 × Int32 × Int32 × Int32 × Ar) :=
  if (m_X5_in v1 (0 : Int32) (1 : Int32)) = (0 : Int32) then (some ((-2 : Int32), re, ac, fa, fw, nw)) else (ob6 (m_X5_barOfRounds th sn re ac fa fw bk nw to pd) (fun r_2 re_3 ac_4 fa_5 fw_6 nw_7 => if (0 : Int32) ≤ r_2 then (if v1 = (0 : Int32) then (some (fa_5, re_3, ac_4, fa_5, fw_6, nw_7)) else (some (fw_6, re_3, ac_4, fa_5, fw_6, nw_7))) else (some ((-5 : Int32), re_3, ac_4, fa_5, fw_6, nw_7))))
def m_X5_down (bk : Ar) (nw : Ar) : Option (Int32 × Ar) :=
  ob1 (m_X5_asNow bk nw) (fun nw_1 => ob1 (m_X5_downSet nw_1) (fun r_3 => some (r_3, nw_1)))
def b_X5_stretch_4 (k_4 : Int32 → Int32 → Option (Int32)) (v0 : Int32) (v1 : Int32) (v2 : Int32) (v3 : Int32) : Option (Int32) :=
  if v1 ≤ v3 then (some v2) else (k_4 (v2 ||| ((1 : Int32) <<< ((irem (v0 + v3) (12 : Int32)) &&& 31))) (v3 + 1))
def L_X5_stretch_4 (v0 : Int32) (v1 : Int32) : Nat → Int32 → Int32 → Option (Int32)
  | 0 => fun _ _ => none
  | n + 1 => fun v2 v3 => b_X5_stretch_4  (L_X5_stretch_4  v0 v1 n) v0 v1 v2 v3
def m_X5_stretch (v0 : Int32) (v1 : Int32) : Option (Int32) :=
  L_X5_stretch_4 v0 v1 fu (0 : Int32) (0 : Int32)
def b_X5_shout_72 (k_15 : Int32 → Ar → Option (Int32 × Ar)) (k_72 : Int32 → Option (Int32 × Ar)) (v1 : Int32) (v2 : Int32) (v3 : Int32) (nw : Ar) (v4 : Int32) : Option (Int32 × Ar) :=
  if (12 : Int32) ≤ v4 then (k_15 (v2 + 1) nw) else (ob1 (m_X5_stretch v4 v1) (fun r_12 => if (r_12 &&& (v3 ^^^ (-1 : Int32))) = (0 : Int32) then (some (v2, nw)) else (k_72 (v4 + 1))))
def L_X5_shout_72 (k_15 : Int32 → Ar → Option (Int32 × Ar)) (v1 : Int32) (v2 : Int32) (v3 : Int32) (nw : Ar) : Nat → Int32 → Option (Int32 × Ar)
  | 0 => fun _ => none
  | n + 1 => fun v4 => b_X5_shout_72 k_15 (L_X5_shout_72 k_15 v1 v2 v3 nw n) v1 v2 v3 nw v4
def j_X5_shout_59 (k_15 : Int32 → Ar → Option (Int32 × Ar)) (v1 : Int32) (v2 : Int32) (s59_0 : Int32) (s59_1 : Int32) (th : Int32) (nw : Ar) : Option (Int32 × Ar) :=
  gd (inb s59_1 15) (ob1 (m_X5_cry th (upd nw (Int32.toNatClampNeg s59_1) s59_0)) (fun nw_7 => ob1 (m_X5_downSet nw_7) (fun r_9 => L_X5_shout_72 k_15 v1 v2 r_9 nw_7 fu (0 : Int32))))
def b_X5_shout_15 (k_15 : Int32 → Ar → Option (Int32 × Ar)) (v1 : Int32) (th : Int32) (bk : Ar) (v2 : Int32) (nw : Ar) : Option (Int32 × Ar) :=
  if (100 : Int32) ≤ v2 then (some ((-6 : Int32), nw)) else (ob1 (m_X5_asNow bk nw) (fun nw_3 => if ((nw_3 12) + v2) ≤ (99 : Int32) then (j_X5_shout_59 k_15 v1 v2 ((nw_3 12) + v2) (12 : Int32) th nw_3) else (j_X5_shout_59 k_15 v1 v2 (99 : Int32) (12 : Int32) th nw_3)))
def L_X5_shout_15 (v1 : Int32) (th : Int32) (bk : Ar) : Nat → Int32 → Ar → Option (Int32 × Ar)
  | 0 => fun _ _ => none
  | n + 1 => fun v2 nw => b_X5_shout_15  (L_X5_shout_15  v1 th bk n) v1 th bk v2 nw
def m_X5_shout (v1 : Int32) (th : Int32) (bk : Ar) (nw : Ar) : Option (Int32 × Ar) :=
  if (m_X5_in v1 (1 : Int32) (12 : Int32)) = (0 : Int32) then (some ((-2 : Int32), nw)) else (L_X5_shout_15 v1 th bk fu (0 : Int32) nw)
def j_X5_horns_130 (k_52 : Int32 → Int32 → Int32 → Ar → Option (Int32 × Ar)) (v4 : Int32) (v6 : Int32) (v9 : Int32) (s130_0 : Int32) (nw : Ar) : Option (Int32 × Ar) :=
  if v9 ≤ v4 then (k_52 v4 s130_0 (v6 + 1) nw) else (k_52 v9 s130_0 (v6 + 1) nw)
def b_X5_horns_72 (k_52 : Int32 → Int32 → Int32 → Ar → Option (Int32 × Ar)) (k_72 : Int32 → Int32 → Int32 → Ar → Option (Int32 × Ar)) (v1 : Int32) (v4 : Int32) (v5 : Int32) (v6 : Int32) (th : Int32) (to : Ar) (v7 : Int32) (v8 : Int32) (v9 : Int32) (nw : Ar) : Option (Int32 × Ar) :=
  if v1 ≤ v9 then (ob1 (m_X5_downSet nw) (fun r_9 => ob1 (m_X5_bits r_9) (fun r_11 => if r_11 ≤ v4 then (j_X5_horns_130 k_52 v4 v6 r_11 v5 nw) else (j_X5_horns_130 k_52 v4 v6 r_11 v6 nw)))) else (gd (nz (v8 / (10 : Int32))) (ob1 (m_X5_blow (v7 / (v8 / (10 : Int32))) th nw to) (fun nw_15 => gd (nz (v8 / (10 : Int32))) (k_72 (irem v7 (v8 / (10 : Int32))) (v8 / (10 : Int32)) (v9 + 1) nw_15))))
def L_X5_horns_72 (k_52 : Int32 → Int32 → Int32 → Ar → Option (Int32 × Ar)) (v1 : Int32) (v4 : Int32) (v5 : Int32) (v6 : Int32) (th : Int32) (to : Ar) : Nat → Int32 → Int32 → Int32 → Ar → Option (Int32 × Ar)
  | 0 => fun _ _ _ _ => none
  | n + 1 => fun v7 v8 v9 nw => b_X5_horns_72 k_52 (L_X5_horns_72 k_52 v1 v4 v5 v6 th to n) v1 v4 v5 v6 th to v7 v8 v9 nw
def b_X5_horns_52 (k_52 : Int32 → Int32 → Int32 → Ar → Option (Int32 × Ar)) (v1 : Int32) (v2 : Int32) (v3 : Int32) (th : Int32) (bk : Ar) (to : Ar) (v4 : Int32) (v5 : Int32) (v6 : Int32) (nw : Ar) : Option (Int32 × Ar) :=
  if v3 ≤ v6 then (if v2 = (0 : Int32) then (some (v4, nw)) else (some (v5, nw))) else (ob1 (m_X5_asNow bk nw) (fun nw_6 => L_X5_horns_72 k_52 v1 v4 v5 v6 th to fu v6 v3 (0 : Int32) nw_6))
def L_X5_horns_52 (v1 : Int32) (v2 : Int32) (v3 : Int32) (th : Int32) (bk : Ar) (to : Ar) : Nat → Int32 → Int32 → Int32 → Ar → Option (Int32 × Ar)
  | 0 => fun _ _ _ _ => none
  | n + 1 => fun v4 v5 v6 nw => b_X5_horns_52  (L_X5_horns_52  v1 v2 v3 th bk to n) v1 v2 v3 th bk to v4 v5 v6 nw
def b_X5_horns_26 (k_26 : Int32 → Int32 → Option (Int32 × Ar)) (v1 : Int32) (v2 : Int32) (th : Int32) (bk : Ar) (nw : Ar) (to : Ar) (v3 : Int32) (v4 : Int32) : Option (Int32 × Ar) :=
  if v1 ≤ v4 then (L_X5_horns_52 v1 v2 v3 th bk to fu (-1 : Int32) (0 : Int32) (0 : Int32) nw) else (k_26 (v3 * (10 : Int32)) (v4 + 1))
def L_X5_horns_26 (v1 : Int32) (v2 : Int32) (th : Int32) (bk : Ar) (nw : Ar) (to : Ar) : Nat → Int32 → Int32 → Option (Int32 × Ar)
  | 0 => fun _ _ => none
  | n + 1 => fun v3 v4 => b_X5_horns_26  (L_X5_horns_26  v1 v2 th bk nw to n) v1 v2 th bk nw to v3 v4
def m_X5_horns (v1 : Int32) (v2 : Int32) (th : Int32) (bk : Ar) (nw : Ar) (to : Ar) : Option (Int32 × Ar) :=
  if (m_X5_in v1 (0 : Int32) (3 : Int32)) = (0 : Int32) then (some ((-2 : Int32), nw)) else (if (m_X5_in v2 (0 : Int32) (1 : Int32)) = (0 : Int32) then (some ((-2 : Int32), nw)) else (L_X5_horns_26 v1 v2 th bk nw to fu (1 : Int32) (0 : Int32)))
def j_X5_weakest_87 (k_31 : Int32 → Int32 → Int32 → Option (Int32)) (v4 : Int32) (v5 : Int32) (v6 : Int32) (s87_0 : Int32) : Option (Int32) :=
  if v4 ≤ v6 then (k_31 s87_0 v4 (v5 + 1)) else (k_31 s87_0 v6 (v5 + 1))
def b_X5_weakest_44 (k_31 : Int32 → Int32 → Int32 → Option (Int32)) (k_44 : Int32 → Int32 → Option (Int32)) (v1 : Int32) (v3 : Int32) (v4 : Int32) (v5 : Int32) (bk : Ar) (v6 : Int32) (v7 : Int32) : Option (Int32) :=
  if v1 ≤ v7 then (if v4 ≤ v6 then (j_X5_weakest_87 k_31 v4 v5 v6 v3) else (j_X5_weakest_87 k_31 v4 v5 v6 v5)) else (gd (inb (irem (v5 + v7) (12 : Int32)) 15) (k_44 (v6 + (bk (Int32.toNatClampNeg (irem (v5 + v7) (12 : Int32))))) (v7 + 1)))
def L_X5_weakest_44 (k_31 : Int32 → Int32 → Int32 → Option (Int32)) (v1 : Int32) (v3 : Int32) (v4 : Int32) (v5 : Int32) (bk : Ar) : Nat → Int32 → Int32 → Option (Int32)
  | 0 => fun _ _ => none
  | n + 1 => fun v6 v7 => b_X5_weakest_44 k_31 (L_X5_weakest_44 k_31 v1 v3 v4 v5 bk n) v1 v3 v4 v5 bk v6 v7
def b_X5_weakest_31 (k_31 : Int32 → Int32 → Int32 → Option (Int32)) (v1 : Int32) (v2 : Int32) (bk : Ar) (v3 : Int32) (v4 : Int32) (v5 : Int32) : Option (Int32) :=
  if (12 : Int32) ≤ v5 then (if v2 = (0 : Int32) then (some v3) else (some v4)) else (L_X5_weakest_44 k_31 v1 v3 v4 v5 bk fu (0 : Int32) (0 : Int32))
def L_X5_weakest_31 (v1 : Int32) (v2 : Int32) (bk : Ar) : Nat → Int32 → Int32 → Int32 → Option (Int32)
  | 0 => fun _ _ _ => none
  | n + 1 => fun v3 v4 v5 => b_X5_weakest_31  (L_X5_weakest_31  v1 v2 bk n) v1 v2 bk v3 v4 v5
def m_X5_weakest (v1 : Int32) (v2 : Int32) (bk : Ar) : Option (Int32) :=
  if (m_X5_in v1 (1 : Int32) (12 : Int32)) = (0 : Int32) then (some (-2 : Int32)) else (if (m_X5_in v2 (0 : Int32) (1 : Int32)) = (0 : Int32) then (some (-2 : Int32)) else (L_X5_weakest_31 v1 v2 bk fu (0 : Int32) (1000000 : Int32) (0 : Int32)))
def b_X5_watch_71 (k_39 : Int32 → Int32 → Option (Int32)) (k_71 : Int32 → Int32 → Option (Int32)) (v1 : Int32) (v2 : Int32) (v4 : Int32) (v5 : Int32) (v6 : Int32) (v7 : Int32) : Option (Int32) :=
  if (12 : Int32) ≤ v7 then (if (v1 &&& (v6 ^^^ (-1 : Int32))) = (0 : Int32) then (k_39 v5 (v5 + 1)) else (k_39 v4 (v5 + 1))) else (if (m_X5_has v5 v7) = (0 : Int32) then (k_71 (v6 ||| (0 : Int32)) (v7 + 1)) else (ob1 (m_X5_stretch ((v7 + (12 : Int32)) - v2) (((2 : Int32) * v2) + (1 : Int32))) (fun r_17 => k_71 (v6 ||| r_17) (v7 + 1))))
def L_X5_watch_71 (k_39 : Int32 → Int32 → Option (Int32)) (v1 : Int32) (v2 : Int32) (v4 : Int32) (v5 : Int32) : Nat → Int32 → Int32 → Option (Int32)
  | 0 => fun _ _ => none
  | n + 1 => fun v6 v7 => b_X5_watch_71 k_39 (L_X5_watch_71 k_39 v1 v2 v4 v5 n) v1 v2 v4 v5 v6 v7
def b_X5_watch_39 (k_39 : Int32 → Int32 → Option (Int32)) (v1 : Int32) (v2 : Int32) (v3 : Int32) (v4 : Int32) (v5 : Int32) : Option (Int32) :=
  if (4096 : Int32) ≤ v5 then (if v3 = (1 : Int32) then (some v4) else (ob1 (m_X5_bits v4) (fun r_6 => some r_6))) else (if v4 < (0 : Int32) then (L_X5_watch_71 k_39 v1 v2 v4 v5 fu (0 : Int32) (0 : Int32)) else (ob1 (m_X5_bits v5) (fun r_9 => ob1 (m_X5_bits v4) (fun r_11 => if r_11 ≤ r_9 then (k_39 v4 (v5 + 1)) else (L_X5_watch_71 k_39 v1 v2 v4 v5 fu (0 : Int32) (0 : Int32))))))
def L_X5_watch_39 (v1 : Int32) (v2 : Int32) (v3 : Int32) : Nat → Int32 → Int32 → Option (Int32)
  | 0 => fun _ _ => none
  | n + 1 => fun v4 v5 => b_X5_watch_39  (L_X5_watch_39  v1 v2 v3 n) v1 v2 v3 v4 v5
def m_X5_watch (v1 : Int32) (v2 : Int32) (v3 : Int32) : Option (Int32) :=
  if (m_X5_in v1 (0 : Int32) (4095 : Int32)) = (0 : Int32) then (some (-2 : Int32)) else (if (m_X5_in v2 (0 : Int32) (3 : Int32)) = (0 : Int32) then (some (-2 : Int32)) else (if (m_X5_in v3 (0 : Int32) (1 : Int32)) = (0 : Int32) then (some (-2 : Int32)) else (L_X5_watch_39 v1 v2 v3 fu (-6 : Int32) (0 : Int32))))
def m_X5_seen (v1 : Int32) (v2 : Int32) (si : Int32) (st : Ar) : Option (Int32 × Int32 × Ar) :=
  if (m_X5_in v1 (0 : Int32) (9 : Int32)) = (0 : Int32) then (some ((-2 : Int32), si, st)) else (if (m_X5_in v2 (0 : Int32) (2 : Int32)) = (0 : Int32) then (some ((-2 : Int32), si, st)) else (if si = (8 : Int32) then (some ((-4 : Int32), si, st)) else (gd (inb ((2 : Int32) * si) 16) (gd (inb (((2 : Int32) * si) + (1 : Int32)) 16) (some ((si + (1 : Int32)), (si + (1 : Int32)), (upd (upd st (Int32.toNatClampNeg ((2 : Int32) * si)) v1) (Int32.toNatClampNeg (((2 : Int32) * si) + (1 : Int32))) v2)))))))
def m_X5_forget (si : Int32) : Option (Int32 × Int32) :=
  some (si, (0 : Int32))
def b_X5_toneSet_15 (k_4 : Int32 → Int32 → Option (Int32)) (k_15 : Int32 → Int32 → Option (Int32)) (v1 : Int32) (v2 : Int32) (si : Int32) (st : Ar) (v3 : Int32) (v4 : Int32) : Option (Int32) :=
  if si ≤ v4 then (if v3 = (0 : Int32) then (k_4 (v1 ||| (0 : Int32)) (v2 + 1)) else (k_4 (v1 ||| ((1 : Int32) <<< (v2 &&& 31))) (v2 + 1))) else (if v3 = (0 : Int32) then (k_15 (0 : Int32) (v4 + 1)) else (gd (inb ((2 : Int32) * v4) 16) (gd (inb (((2 : Int32) * v4) + (1 : Int32)) 16) (if (m_X5_shakes (st (Int32.toNatClampNeg ((2 : Int32) * v4))) v2) = (st (Int32.toNatClampNeg (((2 : Int32) * v4) + (1 : Int32)))) then (k_15 (1 : Int32) (v4 + 1)) else (k_15 (0 : Int32) (v4 + 1))))))
def L_X5_toneSet_15 (k_4 : Int32 → Int32 → Option (Int32)) (v1 : Int32) (v2 : Int32) (si : Int32) (st : Ar) : Nat → Int32 → Int32 → Option (Int32)
  | 0 => fun _ _ => none
  | n + 1 => fun v3 v4 => b_X5_toneSet_15 k_4 (L_X5_toneSet_15 k_4 v1 v2 si st n) v1 v2 si st v3 v4
def b_X5_toneSet_4 (k_4 : Int32 → Int32 → Option (Int32)) (si : Int32) (st : Ar) (v1 : Int32) (v2 : Int32) : Option (Int32) :=
  if (10 : Int32) ≤ v2 then (some v1) else (L_X5_toneSet_15 k_4 v1 v2 si st fu (1 : Int32) (0 : Int32))
def L_X5_toneSet_4 (si : Int32) (st : Ar) : Nat → Int32 → Int32 → Option (Int32)
  | 0 => fun _ _ => none
  | n + 1 => fun v1 v2 => b_X5_toneSet_4  (L_X5_toneSet_4  si st n) si st v1 v2
def m_X5_toneSet (si : Int32) (st : Ar) : Option (Int32) :=
  L_X5_toneSet_4 si st fu (0 : Int32) (0 : Int32)
def m_X5_tones (si : Int32) (st : Ar) : Option (Int32) :=
  ob1 (m_X5_toneSet si st) (fun r_1 => some r_1)
def j_X5_next_159 (k_27 : Int32 → Int32 → Int32 → Ar → Option (Int32 × Ar)) (v4 : Int32) (v5 : Int32) (v6 : Int32) (s159_0 : Int32) (cn : Ar) : Option (Int32 × Ar) :=
  if v4 ≤ v6 then (k_27 s159_0 v4 (v5 + 1) cn) else (k_27 s159_0 v6 (v5 + 1) cn)
def b_X5_next_108 (k_27 : Int32 → Int32 → Int32 → Ar → Option (Int32 × Ar)) (k_108 : Int32 → Int32 → Option (Int32 × Ar)) (v3 : Int32) (v4 : Int32) (v5 : Int32) (cn : Ar) (v6 : Int32) (v7 : Int32) : Option (Int32 × Ar) :=
  if (3 : Int32) ≤ v7 then (if v4 ≤ v6 then (j_X5_next_159 k_27 v4 v5 v6 v3 cn) else (j_X5_next_159 k_27 v4 v5 v6 v5 cn)) else (gd (inb v7 3) (if (cn (Int32.toNatClampNeg v7)) ≤ v6 then (k_108 v6 (v7 + 1)) else (k_108 (cn (Int32.toNatClampNeg v7)) (v7 + 1))))
def L_X5_next_108 (k_27 : Int32 → Int32 → Int32 → Ar → Option (Int32 × Ar)) (v3 : Int32) (v4 : Int32) (v5 : Int32) (cn : Ar) : Nat → Int32 → Int32 → Option (Int32 × Ar)
  | 0 => fun _ _ => none
  | n + 1 => fun v6 v7 => b_X5_next_108 k_27 (L_X5_next_108 k_27 v3 v4 v5 cn n) v3 v4 v5 cn v6 v7
def b_X5_next_67 (k_27 : Int32 → Int32 → Int32 → Ar → Option (Int32 × Ar)) (k_67 : Int32 → Ar → Option (Int32 × Ar)) (v2 : Int32) (v3 : Int32) (v4 : Int32) (v5 : Int32) (v6 : Int32) (v7 : Int32) (cn : Ar) : Option (Int32 × Ar) :=
  if (10 : Int32) ≤ v7 then (L_X5_next_108 k_27 v3 v4 v5 cn fu v6 (0 : Int32)) else (if (m_X5_has v2 v7) = (0 : Int32) then (k_67 (v7 + 1) cn) else (gd (inb (m_X5_shakes v5 v7) 3) (k_67 (v7 + 1) (upd cn (Int32.toNatClampNeg (m_X5_shakes v5 v7)) ((cn (Int32.toNatClampNeg (m_X5_shakes v5 v7))) + (1 : Int32))))))
def L_X5_next_67 (k_27 : Int32 → Int32 → Int32 → Ar → Option (Int32 × Ar)) (v2 : Int32) (v3 : Int32) (v4 : Int32) (v5 : Int32) (v6 : Int32) : Nat → Int32 → Ar → Option (Int32 × Ar)
  | 0 => fun _ _ => none
  | n + 1 => fun v7 cn => b_X5_next_67 k_27 (L_X5_next_67 k_27 v2 v3 v4 v5 v6 n) v2 v3 v4 v5 v6 v7 cn
def b_X5_next_44 (k_27 : Int32 → Int32 → Int32 → Ar → Option (Int32 × Ar)) (k_44 : Int32 → Ar → Option (Int32 × Ar)) (v2 : Int32) (v3 : Int32) (v4 : Int32) (v5 : Int32) (v6 : Int32) (v7 : Int32) (cn : Ar) : Option (Int32 × Ar) :=
  if (3 : Int32) ≤ v7 then (L_X5_next_67 k_27 v2 v3 v4 v5 v6 fu (0 : Int32) cn) else (gd (inb v7 3) (k_44 (v7 + 1) (upd cn (Int32.toNatClampNeg v7) (0 : Int32))))
def L_X5_next_44 (k_27 : Int32 → Int32 → Int32 → Ar → Option (Int32 × Ar)) (v2 : Int32) (v3 : Int32) (v4 : Int32) (v5 : Int32) (v6 : Int32) : Nat → Int32 → Ar → Option (Int32 × Ar)
  | 0 => fun _ _ => none
  | n + 1 => fun v7 cn => b_X5_next_44 k_27 (L_X5_next_44 k_27 v2 v3 v4 v5 v6 n) v2 v3 v4 v5 v6 v7 cn
def j_X5_next_182 (v1 : Int32) (v3 : Int32) (v4 : Int32) (cn : Ar) : Option (Int32 × Ar) :=
  if v3 < (0 : Int32) then (some (v3, cn)) else (if v1 = (0 : Int32) then (some (v3, cn)) else (some (v4, cn)))
def b_X5_next_27 (k_27 : Int32 → Int32 → Int32 → Ar → Option (Int32 × Ar)) (v1 : Int32) (v2 : Int32) (v3 : Int32) (v4 : Int32) (v5 : Int32) (cn : Ar) : Option (Int32 × Ar) :=
  if (10 : Int32) ≤ v5 then (j_X5_next_182 v1 v3 v4 cn) else (if v2 = (0 : Int32) then (j_X5_next_182 v1 v3 v4 cn) else (L_X5_next_44 k_27 v2 v3 v4 v5 (0 : Int32) fu (0 : Int32) cn))
def L_X5_next_27 (v1 : Int32) (v2 : Int32) : Nat → Int32 → Int32 → Int32 → Ar → Option (Int32 × Ar)
  | 0 => fun _ _ _ _ => none
  | n + 1 => fun v3 v4 v5 cn => b_X5_next_27  (L_X5_next_27  v1 v2 n) v1 v2 v3 v4 v5 cn
def m_X5_next (v1 : Int32) (si : Int32) (st : Ar) (cn : Ar) : Option (Int32 × Ar) :=
  if (m_X5_in v1 (0 : Int32) (1 : Int32)) = (0 : Int32) then (some ((-2 : Int32), cn)) else (ob1 (m_X5_toneSet si st) (fun r_2 => L_X5_next_27 v1 r_2 fu (-6 : Int32) (1000000 : Int32) (0 : Int32) cn))
def b_X5_speaks_18 (k_5 : Int32 → Int32 → Option (Int32)) (k_18 : Int32 → Int32 → Option (Int32)) (v2 : Int32) (v3 : Int32) (v4 : Int32) (ne : Ar) (v5 : Int32) (v6 : Int32) : Option (Int32) :=
  if (8 : Int32) ≤ v6 then (k_5 v5 (v4 + 1)) else (if (m_X5_has v2 v6) = (0 : Int32) then (if (m_X5_has v3 v6) = (0 : Int32) then (ob1 (m_X5_bits v3) (fun r_5 => gd (inb v6 8) (if r_5 < (ne (Int32.toNatClampNeg v6)) then (k_18 (v5 ||| (0 : Int32)) (v6 + 1)) else (k_18 (v5 ||| ((1 : Int32) <<< (v6 &&& 31))) (v6 + 1))))) else (k_18 (v5 ||| (0 : Int32)) (v6 + 1))) else (k_18 (v5 ||| (0 : Int32)) (v6 + 1)))
def L_X5_speaks_18 (k_5 : Int32 → Int32 → Option (Int32)) (v2 : Int32) (v3 : Int32) (v4 : Int32) (ne : Ar) : Nat → Int32 → Int32 → Option (Int32)
  | 0 => fun _ _ => none
  | n + 1 => fun v5 v6 => b_X5_speaks_18 k_5 (L_X5_speaks_18 k_5 v2 v3 v4 ne n) v2 v3 v4 ne v5 v6
def b_X5_speaks_5 (k_5 : Int32 → Int32 → Option (Int32)) (v2 : Int32) (ne : Ar) (v3 : Int32) (v4 : Int32) : Option (Int32) :=
  if (8 : Int32) ≤ v4 then (some v3) else (L_X5_speaks_18 k_5 v2 v3 v4 ne fu v3 (0 : Int32))
def L_X5_speaks_5 (v2 : Int32) (ne : Ar) : Nat → Int32 → Int32 → Option (Int32)
  | 0 => fun _ _ => none
  | n + 1 => fun v3 v4 => b_X5_speaks_5  (L_X5_speaks_5  v2 ne n) v2 ne v3 v4
def m_X5_speaks (v1 : Int32) (v2 : Int32) (ne : Ar) : Option (Int32) :=
  L_X5_speaks_5 v2 ne fu v1 (0 : Int32)
def m_X5_chain (v1 : Int32) (ne : Ar) : Option (Int32) :=
  if (m_X5_in v1 (0 : Int32) (255 : Int32)) = (0 : Int32) then (some (-1 : Int32)) else (ob1 (m_X5_speaks v1 (0 : Int32) ne) (fun r_2 => some r_2))
def j_X5_quiet_80 (k_42 : Int32 → Int32 → Option (Int32)) (v1 : Int32) (v2 : Int32) (v4 : Int32) (v5 : Int32) (s80_0 : Int32) (ne : Ar) : Option (Int32) :=
  if s80_0 = (0 : Int32) then (k_42 v4 (v5 + 1)) else (ob1 (m_X5_speaks v1 v5 ne) (fun r_17 => ob1 (m_X5_bits r_17) (fun r_19 => if v2 < r_19 then (k_42 v4 (v5 + 1)) else (k_42 v5 (v5 + 1)))))
def b_X5_quiet_42 (k_42 : Int32 → Int32 → Option (Int32)) (v1 : Int32) (v2 : Int32) (v3 : Int32) (ne : Ar) (v4 : Int32) (v5 : Int32) : Option (Int32) :=
  if (256 : Int32) ≤ v5 then (if v4 < (0 : Int32) then (some v4) else (if v3 = (1 : Int32) then (some v4) else (ob1 (m_X5_bits v4) (fun r_7 => some r_7)))) else (if (v5 &&& v1) = (0 : Int32) then (if v4 < (0 : Int32) then (j_X5_quiet_80 k_42 v1 v2 v4 v5 (1 : Int32) ne) else (ob1 (m_X5_bits v5) (fun r_11 => ob1 (m_X5_bits v4) (fun r_13 => if r_13 ≤ r_11 then (j_X5_quiet_80 k_42 v1 v2 v4 v5 (0 : Int32) ne) else (j_X5_quiet_80 k_42 v1 v2 v4 v5 (1 : Int32) ne))))) else (j_X5_quiet_80 k_42 v1 v2 v4 v5 (0 : Int32) ne))
def L_X5_quiet_42 (v1 : Int32) (v2 : Int32) (v3 : Int32) (ne : Ar) : Nat → Int32 → Int32 → Option (Int32)
  | 0 => fun _ _ => none
  | n + 1 => fun v4 v5 => b_X5_quiet_42  (L_X5_quiet_42  v1 v2 v3 ne n) v1 v2 v3 ne v4 v5
def m_X5_quiet (v1 : Int32) (v2 : Int32) (v3 : Int32) (ne : Ar) : Option (Int32) :=
  if (m_X5_in v1 (0 : Int32) (255 : Int32)) = (0 : Int32) then (some (-1 : Int32)) else (if (m_X5_in v2 (0 : Int32) (8 : Int32)) = (0 : Int32) then (some (-2 : Int32)) else (if (m_X5_in v3 (0 : Int32) (1 : Int32)) = (0 : Int32) then (some (-2 : Int32)) else (L_X5_quiet_42 v1 v2 v3 ne fu (-6 : Int32) (0 : Int32))))
def j_X5_water_115 (k_55 : Int64 → Int64 → Int32 → Int32 → Option (Int64)) (u7 : Int64) (v10 : Int32) (u11 : Int64) (u13 : Int64) (s115_0 : Int32) : Option (Int64) :=
  if s115_0 = (0 : Int32) then (k_55 u11 u7 s115_0 (v10 + 1)) else (k_55 u13 u7 s115_0 (v10 + 1))
def b_X5_water_161 (k_161 : Int64 → Int64 → Option (Int64)) (v4 : Int32) (u5 : Int64) (u7 : Int64) (u10 : Int64) (u12 : Int64) : Option (Int64) :=
  if (lg_cmp u12 (0 : Int64)) = (0 : Int32) then (if v4 = (0 : Int32) then (gd (nzl u10) (some (u5 / u10))) else (gd (nzl u10) (some (u7 / u10)))) else (gd (nzl u12) (k_161 u12 (lrem u10 u12)))
def L_X5_water_161 (v4 : Int32) (u5 : Int64) (u7 : Int64) : Nat → Int64 → Int64 → Option (Int64)
  | 0 => fun _ _ => none
  | n + 1 => fun u10 u12 => b_X5_water_161  (L_X5_water_161  v4 u5 u7 n) v4 u5 u7 u10 u12
def b_X5_water_55 (k_55 : Int64 → Int64 → Int32 → Int32 → Option (Int64)) (v1 : Int32) (v2 : Int32) (v3 : Int32) (v4 : Int32) (u5 : Int64) (u7 : Int64) (v9 : Int32) (v10 : Int32) : Option (Int64) :=
  if v1 < v10 then (if v3 = (1 : Int32) then (if v9 = (0 : Int32) then (some (0 : Int64)) else (some (1 : Int64))) else (L_X5_water_161 v4 u5 u7 fu u5 u7)) else (bnd (((((100 : Int64) * u7) * (Int32.toInt64 v2)) + (((10 : Int64) - (Int32.toInt64 v2)) * u5))) (fun w_8 => if (lg_cmp (((10 : Int64) * (Int32.toInt64 v10)) * (u7 * (10 : Int64))) w_8) < (0 : Int32) then (j_X5_water_115 k_55 (u7 * (10 : Int64)) v10 w_8 (((10 : Int64) * (Int32.toInt64 v10)) * (u7 * (10 : Int64))) (0 : Int32)) else (j_X5_water_115 k_55 (u7 * (10 : Int64)) v10 w_8 (((10 : Int64) * (Int32.toInt64 v10)) * (u7 * (10 : Int64))) (1 : Int32))))
def L_X5_water_55 (v1 : Int32) (v2 : Int32) (v3 : Int32) (v4 : Int32) : Nat → Int64 → Int64 → Int32 → Int32 → Option (Int64)
  | 0 => fun _ _ _ _ => none
  | n + 1 => fun u5 u7 v9 v10 => b_X5_water_55  (L_X5_water_55  v1 v2 v3 v4 n) v1 v2 v3 v4 u5 u7 v9 v10
def m_X5_water (v1 : Int32) (v2 : Int32) (v3 : Int32) (v4 : Int32) : Option (Int64) :=
  if (m_X5_in v1 (0 : Int32) (9 : Int32)) = (0 : Int32) then (some (-1000000000000000002 : Int64)) else (if (m_X5_in v2 (0 : Int32) (10 : Int32)) = (0 : Int32) then (some (-1000000000000000002 : Int64)) else (if (m_X5_in v3 (0 : Int32) (1 : Int32)) = (0 : Int32) then (some (-1000000000000000002 : Int64)) else (if (m_X5_in v4 (0 : Int32) (1 : Int32)) = (0 : Int32) then (some (-1000000000000000002 : Int64)) else (L_X5_water_55 v1 v2 v3 v4 fu (0 : Int64) (1 : Int64) (1 : Int32) (1 : Int32)))))
def b_X5_lotsFor_4 (k_4 : Int32 → Int32 → Option (Int32)) (v0 : Int32) (v1 : Int32) (v2 : Int32) : Option (Int32) :=
  if v0 ≤ v2 then (some v1) else (k_4 (v1 + 1) (v2 * (2 : Int32)))
def L_X5_lotsFor_4 (v0 : Int32) : Nat → Int32 → Int32 → Option (Int32)
  | 0 => fun _ _ => none
  | n + 1 => fun v1 v2 => b_X5_lotsFor_4  (L_X5_lotsFor_4  v0 n) v0 v1 v2
def m_X5_lotsFor (v0 : Int32) : Option (Int32) :=
  L_X5_lotsFor_4 v0 fu (0 : Int32) (1 : Int32)
def m_X5_lots (v1 : Int32) (v2 : Int32) (v3 : Int32) (v4 : Int32) : Option (Int32) :=
  if (m_X5_in v1 (1 : Int32) (20 : Int32)) = (0 : Int32) then (some (-2 : Int32)) else (if (m_X5_in v2 (1 : Int32) (20 : Int32)) = (0 : Int32) then (some (-2 : Int32)) else (if (m_X5_in v3 (1 : Int32) (20 : Int32)) = (0 : Int32) then (some (-2 : Int32)) else (if (m_X5_in v4 (0 : Int32) (1 : Int32)) = (0 : Int32) then (some (-2 : Int32)) else (if v4 = (0 : Int32) then (ob1 (m_X5_lotsFor ((v1 * v2) * v3)) (fun r_12 => some r_12)) else (ob1 (m_X5_lotsFor v1) (fun r_6 => ob1 (m_X5_lotsFor v2) (fun r_8 => ob1 (m_X5_lotsFor v3) (fun r_10 => some ((r_6 + r_8) + r_10)))))))))
def j_X5_day_106 (k_43 : Int32 → Int32 → Ar → Option (Int32 × Ar)) (v4 : Int32) (v5 : Int32) (s106_0 : Int32) (th : Int32) (nw : Ar) (to : Ar) : Option (Int32 × Ar) :=
  if (m_X5_whyNot s106_0 nw) = (0 : Int32) then (ob1 (m_X5_act s106_0 (irem (v4 / (8 : Int32)) (10 : Int32)) th nw to) (fun nw_18 => k_43 v4 (v5 + 1) nw_18)) else (k_43 v4 (v5 + 1) nw)
def b_X5_day_43 (k_43 : Int32 → Int32 → Ar → Option (Int32 × Ar)) (v2 : Int32) (v3 : Int32) (th : Int32) (to : Ar) (v4 : Int32) (v5 : Int32) (nw : Ar) : Option (Int32 × Ar) :=
  if v2 ≤ v5 then (if v3 = (0 : Int32) then (ob1 (m_X5_downSet nw) (fun r_9 => ob1 (m_X5_bits r_9) (fun r_11 => some (r_11, nw)))) else (if v3 = (1 : Int32) then (some ((nw 12), nw)) else (some ((nw 14), nw)))) else (bnd ((irem (irem (((75 : Int32) * v4) + (74 : Int32)) (65537 : Int32)) (8 : Int32))) (fun w_13 => if (4 : Int32) ≤ w_13 then (if (6 : Int32) ≤ w_13 then (if w_13 = (6 : Int32) then (j_X5_day_106 k_43 (irem (((75 : Int32) * v4) + (74 : Int32)) (65537 : Int32)) v5 (33 : Int32) th nw to) else (j_X5_day_106 k_43 (irem (((75 : Int32) * v4) + (74 : Int32)) (65537 : Int32)) v5 (110 : Int32) th nw to)) else (j_X5_day_106 k_43 (irem (((75 : Int32) * v4) + (74 : Int32)) (65537 : Int32)) v5 (104 : Int32) th nw to)) else (j_X5_day_106 k_43 (irem (((75 : Int32) * v4) + (74 : Int32)) (65537 : Int32)) v5 (46 : Int32) th nw to)))
def L_X5_day_43 (v2 : Int32) (v3 : Int32) (th : Int32) (to : Ar) : Nat → Int32 → Int32 → Ar → Option (Int32 × Ar)
  | 0 => fun _ _ _ => none
  | n + 1 => fun v4 v5 nw => b_X5_day_43  (L_X5_day_43  v2 v3 th to n) v2 v3 th to v4 v5 nw
def m_X5_day (v1 : Int32) (v2 : Int32) (v3 : Int32) (th : Int32) (bk : Ar) (nw : Ar) (to : Ar) : Option (Int32 × Ar) :=
  if (m_X5_in v1 (0 : Int32) (9999 : Int32)) = (0 : Int32) then (some ((-2 : Int32), nw)) else (if (m_X5_in v2 (1 : Int32) (99 : Int32)) = (0 : Int32) then (some ((-2 : Int32), nw)) else (if (m_X5_in v3 (0 : Int32) (2 : Int32)) = (0 : Int32) then (some ((-2 : Int32), nw)) else (ob1 (m_X5_asNow bk nw) (fun nw_4 => L_X5_day_43 v2 v3 th to fu v1 (0 : Int32) nw_4))))
def b_X5_image_109 (k_109 : Int32 → Ar → Option (Int32 × Ar × Ar)) (v1 : Int32) (v2 : Int32) (th : Int32) (si : Int32) (st : Ar) (ik : Ar) (v3 : Int32) (ig : Ar) : Option (Int32 × Ar × Ar) :=
  if (16 : Int32) ≤ v3 then (gd (inb (v2 + (55 : Int32)) 120) (gd (inb (v2 + (56 : Int32)) 120) (gd (inb v1 2) (some ((1 : Int32), (upd (upd ig (Int32.toNatClampNeg (v2 + (55 : Int32))) th) (Int32.toNatClampNeg (v2 + (56 : Int32))) si), (upd ik (Int32.toNatClampNeg v1) (1 : Int32))))))) else (gd (inb v3 16) (gd (inb ((v2 + (35 : Int32)) + v3) 120) (k_109 (v3 + 1) (upd ig (Int32.toNatClampNeg ((v2 + (35 : Int32)) + v3)) (st (Int32.toNatClampNeg v3))))))
def L_X5_image_109 (v1 : Int32) (v2 : Int32) (th : Int32) (si : Int32) (st : Ar) (ik : Ar) : Nat → Int32 → Ar → Option (Int32 × Ar × Ar)
  | 0 => fun _ _ => none
  | n + 1 => fun v3 ig => b_X5_image_109  (L_X5_image_109  v1 v2 th si st ik n) v1 v2 th si st ik v3 ig
def b_X5_image_78 (k_78 : Int32 → Ar → Option (Int32 × Ar × Ar)) (v1 : Int32) (v2 : Int32) (th : Int32) (si : Int32) (ne : Ar) (st : Ar) (ik : Ar) (v3 : Int32) (ig : Ar) : Option (Int32 × Ar × Ar) :=
  if (8 : Int32) ≤ v3 then (L_X5_image_109 v1 v2 th si st ik fu (0 : Int32) ig) else (gd (inb v3 8) (gd (inb ((v2 + (27 : Int32)) + v3) 120) (k_78 (v3 + 1) (upd ig (Int32.toNatClampNeg ((v2 + (27 : Int32)) + v3)) (ne (Int32.toNatClampNeg v3))))))
def L_X5_image_78 (v1 : Int32) (v2 : Int32) (th : Int32) (si : Int32) (ne : Ar) (st : Ar) (ik : Ar) : Nat → Int32 → Ar → Option (Int32 × Ar × Ar)
  | 0 => fun _ _ => none
  | n + 1 => fun v3 ig => b_X5_image_78  (L_X5_image_78  v1 v2 th si ne st ik n) v1 v2 th si ne st ik v3 ig
def b_X5_image_47 (k_47 : Int32 → Ar → Option (Int32 × Ar × Ar)) (v1 : Int32) (v2 : Int32) (th : Int32) (si : Int32) (to : Ar) (ne : Ar) (st : Ar) (ik : Ar) (v3 : Int32) (ig : Ar) : Option (Int32 × Ar × Ar) :=
  if (12 : Int32) ≤ v3 then (L_X5_image_78 v1 v2 th si ne st ik fu (0 : Int32) ig) else (gd (inb v3 12) (gd (inb ((v2 + (15 : Int32)) + v3) 120) (k_47 (v3 + 1) (upd ig (Int32.toNatClampNeg ((v2 + (15 : Int32)) + v3)) (to (Int32.toNatClampNeg v3))))))
def L_X5_image_47 (v1 : Int32) (v2 : Int32) (th : Int32) (si : Int32) (to : Ar) (ne : Ar) (st : Ar) (ik : Ar) : Nat → Int32 → Ar → Option (Int32 × Ar × Ar)
  | 0 => fun _ _ => none
  | n + 1 => fun v3 ig => b_X5_image_47  (L_X5_image_47  v1 v2 th si to ne st ik n) v1 v2 th si to ne st ik v3 ig
def b_X5_image_19 (k_19 : Int32 → Ar → Option (Int32 × Ar × Ar)) (v1 : Int32) (v2 : Int32) (th : Int32) (si : Int32) (bk : Ar) (to : Ar) (ne : Ar) (st : Ar) (ik : Ar) (v3 : Int32) (ig : Ar) : Option (Int32 × Ar × Ar) :=
  if (15 : Int32) ≤ v3 then (L_X5_image_47 v1 v2 th si to ne st ik fu (0 : Int32) ig) else (gd (inb v3 15) (gd (inb (v2 + v3) 120) (k_19 (v3 + 1) (upd ig (Int32.toNatClampNeg (v2 + v3)) (bk (Int32.toNatClampNeg v3))))))
def L_X5_image_19 (v1 : Int32) (v2 : Int32) (th : Int32) (si : Int32) (bk : Ar) (to : Ar) (ne : Ar) (st : Ar) (ik : Ar) : Nat → Int32 → Ar → Option (Int32 × Ar × Ar)
  | 0 => fun _ _ => none
  | n + 1 => fun v3 ig => b_X5_image_19  (L_X5_image_19  v1 v2 th si bk to ne st ik n) v1 v2 th si bk to ne st ik v3 ig
def m_X5_image (v1 : Int32) (th : Int32) (si : Int32) (bk : Ar) (to : Ar) (ne : Ar) (st : Ar) (ig : Ar) (ik : Ar) : Option (Int32 × Ar × Ar) :=
  if (m_X5_in v1 (0 : Int32) (1 : Int32)) = (0 : Int32) then (some ((-2 : Int32), ig, ik)) else (L_X5_image_19 v1 ((60 : Int32) * v1) th si bk to ne st ik fu (0 : Int32) ig)
def b_X5_restore_121 (k_121 : Int32 → Ar → Option (Int32 × Int32 × Int32 × Ar × Ar × Ar × Ar)) (v2 : Int32) (bk : Ar) (to : Ar) (ne : Ar) (ig : Ar) (v3 : Int32) (st : Ar) : Option (Int32 × Int32 × Int32 × Ar × Ar × Ar × Ar) :=
  if (16 : Int32) ≤ v3 then (gd (inb (v2 + (55 : Int32)) 120) (gd (inb (v2 + (56 : Int32)) 120) (some ((1 : Int32), (ig (Int32.toNatClampNeg (v2 + (55 : Int32)))), (ig (Int32.toNatClampNeg (v2 + (56 : Int32)))), bk, to, ne, st)))) else (gd (inb ((v2 + (35 : Int32)) + v3) 120) (gd (inb v3 16) (k_121 (v3 + 1) (upd st (Int32.toNatClampNeg v3) (ig (Int32.toNatClampNeg ((v2 + (35 : Int32)) + v3)))))))
def L_X5_restore_121 (v2 : Int32) (bk : Ar) (to : Ar) (ne : Ar) (ig : Ar) : Nat → Int32 → Ar → Option (Int32 × Int32 × Int32 × Ar × Ar × Ar × Ar)
  | 0 => fun _ _ => none
  | n + 1 => fun v3 st => b_X5_restore_121  (L_X5_restore_121  v2 bk to ne ig n) v2 bk to ne ig v3 st
def b_X5_restore_90 (k_90 : Int32 → Ar → Option (Int32 × Int32 × Int32 × Ar × Ar × Ar × Ar)) (v2 : Int32) (bk : Ar) (to : Ar) (st : Ar) (ig : Ar) (v3 : Int32) (ne : Ar) : Option (Int32 × Int32 × Int32 × Ar × Ar × Ar × Ar) :=
  if (8 : Int32) ≤ v3 then (L_X5_restore_121 v2 bk to ne ig fu (0 : Int32) st) else (gd (inb ((v2 + (27 : Int32)) + v3) 120) (gd (inb v3 8) (k_90 (v3 + 1) (upd ne (Int32.toNatClampNeg v3) (ig (Int32.toNatClampNeg ((v2 + (27 : Int32)) + v3)))))))
def L_X5_restore_90 (v2 : Int32) (bk : Ar) (to : Ar) (st : Ar) (ig : Ar) : Nat → Int32 → Ar → Option (Int32 × Int32 × Int32 × Ar × Ar × Ar × Ar)
  | 0 => fun _ _ => none
  | n + 1 => fun v3 ne => b_X5_restore_90  (L_X5_restore_90  v2 bk to st ig n) v2 bk to st ig v3 ne
def b_X5_restore_59 (k_59 : Int32 → Ar → Option (Int32 × Int32 × Int32 × Ar × Ar × Ar × Ar)) (v2 : Int32) (bk : Ar) (ne : Ar) (st : Ar) (ig : Ar) (v3 : Int32) (to : Ar) : Option (Int32 × Int32 × Int32 × Ar × Ar × Ar × Ar) :=
  if (12 : Int32) ≤ v3 then (L_X5_restore_90 v2 bk to st ig fu (0 : Int32) ne) else (gd (inb ((v2 + (15 : Int32)) + v3) 120) (gd (inb v3 12) (k_59 (v3 + 1) (upd to (Int32.toNatClampNeg v3) (ig (Int32.toNatClampNeg ((v2 + (15 : Int32)) + v3)))))))
def L_X5_restore_59 (v2 : Int32) (bk : Ar) (ne : Ar) (st : Ar) (ig : Ar) : Nat → Int32 → Ar → Option (Int32 × Int32 × Int32 × Ar × Ar × Ar × Ar)
  | 0 => fun _ _ => none
  | n + 1 => fun v3 to => b_X5_restore_59  (L_X5_restore_59  v2 bk ne st ig n) v2 bk ne st ig v3 to
def b_X5_restore_31 (k_31 : Int32 → Ar → Option (Int32 × Int32 × Int32 × Ar × Ar × Ar × Ar)) (v2 : Int32) (to : Ar) (ne : Ar) (st : Ar) (ig : Ar) (v3 : Int32) (bk : Ar) : Option (Int32 × Int32 × Int32 × Ar × Ar × Ar × Ar) :=
  if (15 : Int32) ≤ v3 then (L_X5_restore_59 v2 bk ne st ig fu (0 : Int32) to) else (gd (inb (v2 + v3) 120) (gd (inb v3 15) (k_31 (v3 + 1) (upd bk (Int32.toNatClampNeg v3) (ig (Int32.toNatClampNeg (v2 + v3)))))))
def L_X5_restore_31 (v2 : Int32) (to : Ar) (ne : Ar) (st : Ar) (ig : Ar) : Nat → Int32 → Ar → Option (Int32 × Int32 × Int32 × Ar × Ar × Ar × Ar)
  | 0 => fun _ _ => none
  | n + 1 => fun v3 bk => b_X5_restore_31  (L_X5_restore_31  v2 to ne st ig n) v2 to ne st ig v3 bk
def m_X5_restore (v1 : Int32) (th : Int32) (si : Int32) (bk : Ar) (to : Ar) (ne : Ar) (st : Ar) (ig : Ar) (ik : Ar) : Option (Int32 × Int32 × Int32 × Ar × Ar × Ar × Ar) :=
  if (m_X5_in v1 (0 : Int32) (1 : Int32)) = (0 : Int32) then (some ((-2 : Int32), th, si, bk, to, ne, st)) else (gd (inb v1 2) (if (ik (Int32.toNatClampNeg v1)) = (0 : Int32) then (some ((-3 : Int32), th, si, bk, to, ne, st)) else (L_X5_restore_31 ((60 : Int32) * v1) to ne st ig fu (0 : Int32) bk)))
def m_X5_told (v1 : Int32) (th : Int32) (si : Int32) (sn : Int32) (bk : Ar) (to : Ar) (ne : Ar) : Option (Int32) :=
  if v1 < (50 : Int32) then (if v1 < (30 : Int32) then (if v1 < (10 : Int32) then (if v1 = (0 : Int32) then (some sn) else (if v1 = (1 : Int32) then (some (bk 14)) else (if v1 = (2 : Int32) then (some (bk 12)) else (if v1 = (3 : Int32) then (some (bk 13)) else (if v1 = (4 : Int32) then (some th) else (if v1 = (5 : Int32) then (some si) else (some (-2 : Int32)))))))) else (ob1 (m_X5_isPart (v1 - (10 : Int32))) (fun r_10 => if r_10 = (0 : Int32) then (some (-2 : Int32)) else (gd (inb (v1 - (10 : Int32)) 15) (some (bk (Int32.toNatClampNeg (v1 - (10 : Int32))))))))) else (ob1 (m_X5_isPart (v1 - (30 : Int32))) (fun r_14 => if r_14 = (0 : Int32) then (some (-2 : Int32)) else (gd (inb (v1 - (30 : Int32)) 12) (some (to (Int32.toNatClampNeg (v1 - (30 : Int32))))))))) else (if (m_X5_in v1 (50 : Int32) (57 : Int32)) = (0 : Int32) then (some (-2 : Int32)) else (gd (inb (v1 - (50 : Int32)) 8) (some (ne (Int32.toNatClampNeg (v1 - (50 : Int32)))))))
def b_J7_fill_53178_5 (k_5 : Int32 → Ar → Option (Ar)) (nn : Nat) (v1 : Int32) (v3 : Int32) (v2 : Int32) (fi : Ar) : Option (Ar) :=
  if v3 ≤ v2 then (some fi) else (gd (inb v2 nn) (k_5 (v2 + 1) (upd fi (Int32.toNatClampNeg v2) v1)))
def L_J7_fill_53178_5 (nn : Nat) (v1 : Int32) (v3 : Int32) : Nat → Int32 → Ar → Option (Ar)
  | 0 => fun _ _ => none
  | n + 1 => fun v2 fi => b_J7_fill_53178_5  (L_J7_fill_53178_5  nn v1 v3 n) nn v1 v3 v2 fi
def m_J7_fill_53178 (nn : Nat) (v1 : Int32) (fi : Ar) : Option (Ar) :=
  L_J7_fill_53178_5 nn v1 (Int32.ofNat nn) fu (0 : Int32) fi
