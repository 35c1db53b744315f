abbrev rm_X3_copyFrom : Room := { frames := 1, cells := 0, slots := 0, locals := 18 }
theorem hd_X3_copyFrom : yX3_copyFrom.cls ≠ "java/lang/invoke/MethodHandle" ∧ yX3_copyFrom.cls ≠ "java/lang/invoke/VarHandle" ∧ (parseMethodDescriptor yX3_copyFrom.desc).map (fun d => d.parameters.length) = some 1 := by decide +kernel
set_option maxHeartbeats 4000000 in
set_option maxRecDepth 100000 in
theorem k_X3_copyFrom (l : Launch) (dC : Nat → ClassId) (dI : Nat → Nat → Nat) (cI cZ cS : ClassId) (q3 q3fi q3to q32 q3fi2 q3to2 : Nat) (sz : Nat) (th : Int32) (he : Int32) (ma : Int32) (ro : Int32) (fi : Ar) (to : Ar) (th2 : Int32) (he2 : Int32) (ma2 : Int32) (ro2 : Int32) (fi2 : Ar) (to2 : Ar)  (th_o : Int32) (he_o : Int32) (ma_o : Int32) (ro_o : Int32) (fi_o : Ar) (to_o : Ar) (hs : m_X3_copyFrom fi to th2 he2 ma2 ro2 fi2 to2 = some (th_o, he_o, ma_o, ro_o, fi_o, to_o)) : Met l yX3_copyFrom (.code yX3_copyFrom cX3_copyFrom 2 none :: kG) rm_X3_copyFrom (va_Pc [.ref q3, .ref q32] (kW (dC, dI) cI cZ cS [(q3, .inr (3, [.ref q3fi, .ref q3to, .int th, .int he, .int ma, .int ro])), (q3fi, .inl (cI, 12, .inl fi)), (q3to, .inl (cI, 12, .inl to)), (q32, .inr (3, [.ref q3fi2, .ref q3to2, .int th2, .int he2, .int ma2, .int ro2])), (q3fi2, .inl (cI, 12, .inl fi2)), (q3to2, .inl (cI, 12, .inl to2))] sz)) (kQv (dC, dI) [(q3, .inr (3, [.ref q3fi, .ref q3to, .int th, .int he, .int ma, .int ro])), (q3fi, .inl (cI, 12, .inl fi)), (q3to, .inl (cI, 12, .inl to)), (q32, .inr (3, [.ref q3fi2, .ref q3to2, .int th2, .int he2, .int ma2, .int ro2])), (q3fi2, .inl (cI, 12, .inl fi2)), (q3to2, .inl (cI, 12, .inl to2))] [(q3, .inr (3, [.ref q3fi, .ref q3to, .int th_o, .int he_o, .int ma_o, .int ro_o])), (q3fi, .inl (cI, 12, .inl fi_o)), (q3to, .inl (cI, 12, .inl to_o)), (q32, .inr (3, [.ref q3fi2, .ref q3to2, .int th2, .int he2, .int ma2, .int ro2])), (q3fi2, .inl (cI, 12, .inl fi2)), (q3to2, .inl (cI, 12, .inl to2))] sz) 0 0 (va_A [(q3, .inr (3, [.ref q3fi, .ref q3to, .int th, .int he, .int ma, .int ro])), (q3fi, .inl (cI, 12, .inl fi)), (q3to, .inl (cI, 12, .inl to)), (q32, .inr (3, [.ref q3fi2, .ref q3to2, .int th2, .int he2, .int ma2, .int ro2])), (q3fi2, .inl (cI, 12, .inl fi2)), (q3to2, .inl (cI, 12, .inl to2))] sz) := by
  refine kMv (own := RX3) (by decide) rfl ?_ (Nat.le_of_ble_eq_true rfl)
  intro p e s m args below meth c Q A CF hK hN hA hP hD hret ls hl
  have hS : va_S A s.heap s.heap [] := va_S.rf
  obtain ⟨hx, hb, hml, hown, hts⟩ := id CF
  have hl : lv_has ls 2 [(0, .ref q3), (1, .ref q32)] := hl
  unfold m_X3_copyFrom at hs
  refine lv_aload_n hx hb dX3_copyFrom_0 rfl (lv_at hl 1 rfl) ?_
  refine va_get (D := (dC, dI)) (ci := 3) (v := .ref q3fi2) (C := RX3) (T := TX3) (N := 6) hx hb hts (fun w h => kg1 (iG_3 w h)) hown hK hP 3 rfl rfl 0 (by decide) (hts _ (kg1 mG_21)) (fun _ h9 => h9) rfl dX3_copyFrom_1 ?_
  refine lv_iconst (v := 0) hx hb dX3_copyFrom_4 (by decide) ?_
  refine lv_aload_n hx hb dX3_copyFrom_5 rfl (lv_at hl 0 rfl) ?_
  refine va_get (D := (dC, dI)) (ci := 3) (v := .ref q3fi) (C := RX3) (T := TX3) (N := 6) hx hb hts (fun w h => kg1 (iG_3 w h)) hown hK hP 0 rfl rfl 0 (by decide) (hts _ (kg1 mG_21)) (fun _ h9 => h9) rfl dX3_copyFrom_6 ?_
  refine lv_iconst (v := 0) hx hb dX3_copyFrom_9 (by decide) ?_
  refine lv_bipush (v := 12) hx hb dX3_copyFrom_10 (by decide) ?_
  refine va_copyi hx hb (by rw [hml]; exact hl.1.symm) hown (hts _ (kg1 mG_38)) (hts _ (kg1 mG_39)) (hts _ (kg1 mG_40)) (hts _ (kg1 mG_41)) hK hP hD hS 4 1 0 0 rfl rfl rfl rfl rfl (by decide) (by decide) (by decide) (by decide) (by decide) (fun i _ => rfl) (Nat.le_of_ble_eq_true rfl) (Nat.le_of_ble_eq_true rfl) dX3_copyFrom_12 (fun H locs hP hD hS => ?_)
  have hP : va_P (dC, dI) vwCl [(q3, .inr (3, [.ref q3fi, .ref q3to, .int th, .int he, .int ma, .int ro])), (q3fi, .inl (cI, 12, .inl (va_cpy fi2 fi 0 0 12))), (q3to, .inl (cI, 12, .inl to)), (q32, .inr (3, [.ref q3fi2, .ref q3to2, .int th2, .int he2, .int ma2, .int ro2])), (q3fi2, .inl (cI, 12, .inl fi2)), (q3to2, .inl (cI, 12, .inl to2))] H := hP
  have hD : va_D A [(q3, .inr (3, [.ref q3fi, .ref q3to, .int th, .int he, .int ma, .int ro])), (q3fi, .inl (cI, 12, .inl (va_cpy fi2 fi 0 0 12))), (q3to, .inl (cI, 12, .inl to)), (q32, .inr (3, [.ref q3fi2, .ref q3to2, .int th2, .int he2, .int ma2, .int ro2])), (q3fi2, .inl (cI, 12, .inl fi2)), (q3to2, .inl (cI, 12, .inl to2))] := hD
  refine lv_aload_n hx hb dX3_copyFrom_15 rfl (lv_at hl 1 rfl) ?_
  refine va_get (D := (dC, dI)) (ci := 3) (v := .ref q3to2) (C := RX3) (T := TX3) (N := 6) hx hb hts (fun w h => kg1 (iG_3 w h)) hown hK hP 3 rfl rfl 1 (by decide) (hts _ (kg1 mG_22)) (fun _ h9 => h9) rfl dX3_copyFrom_16 ?_
  refine lv_iconst (v := 0) hx hb dX3_copyFrom_19 (by decide) ?_
  refine lv_aload_n hx hb dX3_copyFrom_20 rfl (lv_at hl 0 rfl) ?_
  refine va_get (D := (dC, dI)) (ci := 3) (v := .ref q3to) (C := RX3) (T := TX3) (N := 6) hx hb hts (fun w h => kg1 (iG_3 w h)) hown hK hP 0 rfl rfl 1 (by decide) (hts _ (kg1 mG_22)) (fun _ h9 => h9) rfl dX3_copyFrom_21 ?_
  refine lv_iconst (v := 0) hx hb dX3_copyFrom_24 (by decide) ?_
  refine lv_bipush (v := 12) hx hb dX3_copyFrom_25 (by decide) ?_
  refine va_copyi hx hb (by rw [hml]; exact hl.1.symm) hown (hts _ (kg1 mG_38)) (hts _ (kg1 mG_39)) (hts _ (kg1 mG_40)) (hts _ (kg1 mG_41)) hK hP hD hS 5 2 0 0 rfl rfl rfl rfl rfl (by decide) (by decide) (by decide) (by decide) (by decide) (fun i _ => rfl) (Nat.le_of_ble_eq_true rfl) (Nat.le_of_ble_eq_true rfl) dX3_copyFrom_27 (fun H locs hP hD hS => ?_)
  have hP : va_P (dC, dI) vwCl [(q3, .inr (3, [.ref q3fi, .ref q3to, .int th, .int he, .int ma, .int ro])), (q3fi, .inl (cI, 12, .inl (va_cpy fi2 fi 0 0 12))), (q3to, .inl (cI, 12, .inl (va_cpy to2 to 0 0 12))), (q32, .inr (3, [.ref q3fi2, .ref q3to2, .int th2, .int he2, .int ma2, .int ro2])), (q3fi2, .inl (cI, 12, .inl fi2)), (q3to2, .inl (cI, 12, .inl to2))] H := hP
  have hD : va_D A [(q3, .inr (3, [.ref q3fi, .ref q3to, .int th, .int he, .int ma, .int ro])), (q3fi, .inl (cI, 12, .inl (va_cpy fi2 fi 0 0 12))), (q3to, .inl (cI, 12, .inl (va_cpy to2 to 0 0 12))), (q32, .inr (3, [.ref q3fi2, .ref q3to2, .int th2, .int he2, .int ma2, .int ro2])), (q3fi2, .inl (cI, 12, .inl fi2)), (q3to2, .inl (cI, 12, .inl to2))] := hD
  refine lv_aload_n hx hb dX3_copyFrom_30 rfl (lv_at hl 0 rfl) ?_
  refine lv_aload_n hx hb dX3_copyFrom_31 rfl (lv_at hl 1 rfl) ?_
  refine va_get (D := (dC, dI)) (ci := 3) (v := .int th2) (C := RX3) (T := TX3) (N := 6) hx hb hts (fun w h => kg1 (iG_3 w h)) hown hK hP 3 rfl rfl 2 (by decide) (hts _ (kg1 mG_42)) (fun _ h9 => h9) rfl dX3_copyFrom_32 ?_
  refine va_put (D := (dC, dI)) (ci := 3) (v := .int th2) (ty := .int) (C := RX3) (T := TX3) (N := 6) hx hb hts (fun w h => kg1 (iG_3 w h)) tyX3 tyX3_ok nmX3 hown hK hP hD hS 0 rfl rfl 2 (by decide) (hts _ (kg1 mG_42)) (fun _ h9 => h9) rfl rfl rfl rfl (Nat.le_of_ble_eq_true rfl) dX3_copyFrom_35 (fun H locs hP hD hS => ?_)
  have hP : va_P (dC, dI) vwCl [(q3, .inr (3, [.ref q3fi, .ref q3to, .int th2, .int he, .int ma, .int ro])), (q3fi, .inl (cI, 12, .inl (va_cpy fi2 fi 0 0 12))), (q3to, .inl (cI, 12, .inl (va_cpy to2 to 0 0 12))), (q32, .inr (3, [.ref q3fi2, .ref q3to2, .int th2, .int he2, .int ma2, .int ro2])), (q3fi2, .inl (cI, 12, .inl fi2)), (q3to2, .inl (cI, 12, .inl to2))] H := hP
  have hD : va_D A [(q3, .inr (3, [.ref q3fi, .ref q3to, .int th2, .int he, .int ma, .int ro])), (q3fi, .inl (cI, 12, .inl (va_cpy fi2 fi 0 0 12))), (q3to, .inl (cI, 12, .inl (va_cpy to2 to 0 0 12))), (q32, .inr (3, [.ref q3fi2, .ref q3to2, .int th2, .int he2, .int ma2, .int ro2])), (q3fi2, .inl (cI, 12, .inl fi2)), (q3to2, .inl (cI, 12, .inl to2))] := hD
  refine lv_aload_n hx hb dX3_copyFrom_38 rfl (lv_at hl 0 rfl) ?_
  refine lv_aload_n hx hb dX3_copyFrom_39 rfl (lv_at hl 1 rfl) ?_
  refine va_get (D := (dC, dI)) (ci := 3) (v := .int he2) (C := RX3) (T := TX3) (N := 6) hx hb hts (fun w h => kg1 (iG_3 w h)) hown hK hP 3 rfl rfl 3 (by decide) (hts _ (kg1 mG_43)) (fun _ h9 => h9) rfl dX3_copyFrom_40 ?_
  refine va_put (D := (dC, dI)) (ci := 3) (v := .int he2) (ty := .int) (C := RX3) (T := TX3) (N := 6) hx hb hts (fun w h => kg1 (iG_3 w h)) tyX3 tyX3_ok nmX3 hown hK hP hD hS 0 rfl rfl 3 (by decide) (hts _ (kg1 mG_43)) (fun _ h9 => h9) rfl rfl rfl rfl (Nat.le_of_ble_eq_true rfl) dX3_copyFrom_43 (fun H locs hP hD hS => ?_)
  have hP : va_P (dC, dI) vwCl [(q3, .inr (3, [.ref q3fi, .ref q3to, .int th2, .int he2, .int ma, .int ro])), (q3fi, .inl (cI, 12, .inl (va_cpy fi2 fi 0 0 12))), (q3to, .inl (cI, 12, .inl (va_cpy to2 to 0 0 12))), (q32, .inr (3, [.ref q3fi2, .ref q3to2, .int th2, .int he2, .int ma2, .int ro2])), (q3fi2, .inl (cI, 12, .inl fi2)), (q3to2, .inl (cI, 12, .inl to2))] H := hP
  have hD : va_D A [(q3, .inr (3, [.ref q3fi, .ref q3to, .int th2, .int he2, .int ma, .int ro])), (q3fi, .inl (cI, 12, .inl (va_cpy fi2 fi 0 0 12))), (q3to, .inl (cI, 12, .inl (va_cpy to2 to 0 0 12))), (q32, .inr (3, [.ref q3fi2, .ref q3to2, .int th2, .int he2, .int ma2, .int ro2])), (q3fi2, .inl (cI, 12, .inl fi2)), (q3to2, .inl (cI, 12, .inl to2))] := hD
  refine lv_aload_n hx hb dX3_copyFrom_46 rfl (lv_at hl 0 rfl) ?_
  refine lv_aload_n hx hb dX3_copyFrom_47 rfl (lv_at hl 1 rfl) ?_
  refine va_get (D := (dC, dI)) (ci := 3) (v := .int ma2) (C := RX3) (T := TX3) (N := 6) hx hb hts (fun w h => kg1 (iG_3 w h)) hown hK hP 3 rfl rfl 4 (by decide) (hts _ (kg1 mG_44)) (fun _ h9 => h9) rfl dX3_copyFrom_48 ?_
  refine va_put (D := (dC, dI)) (ci := 3) (v := .int ma2) (ty := .int) (C := RX3) (T := TX3) (N := 6) hx hb hts (fun w h => kg1 (iG_3 w h)) tyX3 tyX3_ok nmX3 hown hK hP hD hS 0 rfl rfl 4 (by decide) (hts _ (kg1 mG_44)) (fun _ h9 => h9) rfl rfl rfl rfl (Nat.le_of_ble_eq_true rfl) dX3_copyFrom_51 (fun H locs hP hD hS => ?_)
  have hP : va_P (dC, dI) vwCl [(q3, .inr (3, [.ref q3fi, .ref q3to, .int th2, .int he2, .int ma2, .int ro])), (q3fi, .inl (cI, 12, .inl (va_cpy fi2 fi 0 0 12))), (q3to, .inl (cI, 12, .inl (va_cpy to2 to 0 0 12))), (q32, .inr (3, [.ref q3fi2, .ref q3to2, .int th2, .int he2, .int ma2, .int ro2])), (q3fi2, .inl (cI, 12, .inl fi2)), (q3to2, .inl (cI, 12, .inl to2))] H := hP
  have hD : va_D A [(q3, .inr (3, [.ref q3fi, .ref q3to, .int th2, .int he2, .int ma2, .int ro])), (q3fi, .inl (cI, 12, .inl (va_cpy fi2 fi 0 0 12))), (q3to, .inl (cI, 12, .inl (va_cpy to2 to 0 0 12))), (q32, .inr (3, [.ref q3fi2, .ref q3to2, .int th2, .int he2, .int ma2, .int ro2])), (q3fi2, .inl (cI, 12, .inl fi2)), (q3to2, .inl (cI, 12, .inl to2))] := hD
  refine lv_aload_n hx hb dX3_copyFrom_54 rfl (lv_at hl 0 rfl) ?_
  refine lv_aload_n hx hb dX3_copyFrom_55 rfl (lv_at hl 1 rfl) ?_
  refine va_get (D := (dC, dI)) (ci := 3) (v := .int ro2) (C := RX3) (T := TX3) (N := 6) hx hb hts (fun w h => kg1 (iG_3 w h)) hown hK hP 3 rfl rfl 5 (by decide) (hts _ (kg1 mG_45)) (fun _ h9 => h9) rfl dX3_copyFrom_56 ?_
  refine va_put (D := (dC, dI)) (ci := 3) (v := .int ro2) (ty := .int) (C := RX3) (T := TX3) (N := 6) hx hb hts (fun w h => kg1 (iG_3 w h)) tyX3 tyX3_ok nmX3 hown hK hP hD hS 0 rfl rfl 5 (by decide) (hts _ (kg1 mG_45)) (fun _ h9 => h9) rfl rfl rfl rfl (Nat.le_of_ble_eq_true rfl) dX3_copyFrom_59 (fun H locs hP hD hS => ?_)
  have hP : va_P (dC, dI) vwCl [(q3, .inr (3, [.ref q3fi, .ref q3to, .int th2, .int he2, .int ma2, .int ro2])), (q3fi, .inl (cI, 12, .inl (va_cpy fi2 fi 0 0 12))), (q3to, .inl (cI, 12, .inl (va_cpy to2 to 0 0 12))), (q32, .inr (3, [.ref q3fi2, .ref q3to2, .int th2, .int he2, .int ma2, .int ro2])), (q3fi2, .inl (cI, 12, .inl fi2)), (q3to2, .inl (cI, 12, .inl to2))] H := hP
  have hD : va_D A [(q3, .inr (3, [.ref q3fi, .ref q3to, .int th2, .int he2, .int ma2, .int ro2])), (q3fi, .inl (cI, 12, .inl (va_cpy fi2 fi 0 0 12))), (q3to, .inl (cI, 12, .inl (va_cpy to2 to 0 0 12))), (q32, .inr (3, [.ref q3fi2, .ref q3to2, .int th2, .int he2, .int ma2, .int ro2])), (q3fi2, .inl (cI, 12, .inl fi2)), (q3to2, .inl (cI, 12, .inl to2))] := hD
  cases hs
  exact hret _ _ _ _ hP hD hS dX3_copyFrom_62
abbrev rm_X3_obstacle : Room := { frames := 0, cells := 0, slots := 0, locals := 0 }
theorem hd_X3_obstacle : yX3_obstacle.cls ≠ "java/lang/invoke/MethodHandle" ∧ yX3_obstacle.cls ≠ "java/lang/invoke/VarHandle" ∧ (parseMethodDescriptor yX3_obstacle.desc).map (fun d => d.parameters.length) = some 1 := by decide +kernel
set_option maxHeartbeats 4000000 in
set_option maxRecDepth 100000 in
theorem k_X3_obstacle (l : Launch) (dC : Nat → ClassId) (dI : Nat → Nat → Nat) (cI cZ cS : ClassId) (q3 q3fi q3to : Nat) (sz : Nat) (th : Int32) (he : Int32) (ma : Int32) (ro : Int32) (fi : Ar) (to : Ar) (v1 : Int32) (r0 : Int32) (hs : m_X3_obstacle v1 he ma ro = r0) : Met l yX3_obstacle (.code yX3_obstacle cX3_obstacle 2 (some .int) :: kG) rm_X3_obstacle (va_Pc [.ref q3, .int v1] (kW (dC, dI) cI cZ cS [(q3, .inr (3, [.ref q3fi, .ref q3to, .int th, .int he, .int ma, .int ro])), (q3fi, .inl (cI, 12, .inl fi)), (q3to, .inl (cI, 12, .inl to))] sz)) (kQi (dC, dI) [(q3, .inr (3, [.ref q3fi, .ref q3to, .int th, .int he, .int ma, .int ro])), (q3fi, .inl (cI, 12, .inl fi)), (q3to, .inl (cI, 12, .inl to))] [(q3, .inr (3, [.ref q3fi, .ref q3to, .int th, .int he, .int ma, .int ro])), (q3fi, .inl (cI, 12, .inl fi)), (q3to, .inl (cI, 12, .inl to))] sz r0) 0 0 (va_A [(q3, .inr (3, [.ref q3fi, .ref q3to, .int th, .int he, .int ma, .int ro])), (q3fi, .inl (cI, 12, .inl fi)), (q3to, .inl (cI, 12, .inl to))] sz) := by
  refine kMi (own := RX3) (ty := .int) rfl (by decide) rfl ?_ (Nat.le_of_ble_eq_true rfl)
  intro p e s m args below meth c Q A CF hK hN hA hP hD hret ls hl
  have hS : va_S A s.heap s.heap [] := va_S.rf
  obtain ⟨hx, hb, hml, hown, hts⟩ := id CF
  have hl : lv_has ls 2 [(0, .ref q3), (1, .int v1)] := hl
  unfold m_X3_obstacle at hs
  refine lv_iload_n hx hb dX3_obstacle_0 rfl (lv_at hl 1 rfl) ?_
  by_cases c_1 : v1 = (33 : Int32)
  · replace hs := if_p c_1 hs
    refine lv_lookup (off := 27) (tgt := 28) hx hb dX3_obstacle_1 (by decide) (by rw [c_1]; decide) (by decide) ?_
    refine lv_aload_n hx hb dX3_obstacle_28 rfl (lv_at hl 0 rfl) ?_
    refine va_get (D := (dC, dI)) (ci := 3) (v := .int he) (C := RX3) (T := TX3) (N := 6) hx hb hts (fun w h => kg1 (iG_3 w h)) hown hK hP 0 rfl rfl 3 (by decide) (hts _ (kg1 mG_43)) (fun _ h9 => h9) rfl dX3_obstacle_29 ?_
    refine lv_if_ne (tgt := 39) hx hb dX3_obstacle_32 (by decide) (fun c_2 => ?_) (fun c_2 => ?_)
    · replace hs := if_n c_2 hs
      refine lv_iconst (v := 0) hx hb dX3_obstacle_39 (by decide) ?_
      cases hs
      exact hret _ _ _ _ hP hD hS (vp_nar_int _) dX3_obstacle_40
    · replace hs := if_p c_2 hs
      refine lv_iconst (v := 2) hx hb dX3_obstacle_35 (by decide) ?_
      refine lv_goto (tgt := 40) hx hb dX3_obstacle_36 (by decide) ?_
      cases hs
      exact hret _ _ _ _ hP hD hS (vp_nar_int _) dX3_obstacle_40
  replace hs := if_n c_1 hs
  by_cases c_3 : v1 = (110 : Int32)
  · replace hs := if_p c_3 hs
    refine lv_lookup (off := 40) (tgt := 41) hx hb dX3_obstacle_1 (by decide) (by rw [c_3]; decide) (by decide) ?_
    refine lv_aload_n hx hb dX3_obstacle_41 rfl (lv_at hl 0 rfl) ?_
    refine va_get (D := (dC, dI)) (ci := 3) (v := .int ma) (C := RX3) (T := TX3) (N := 6) hx hb hts (fun w h => kg1 (iG_3 w h)) hown hK hP 0 rfl rfl 4 (by decide) (hts _ (kg1 mG_44)) (fun _ h9 => h9) rfl dX3_obstacle_42 ?_
    refine lv_if_ne (tgt := 52) hx hb dX3_obstacle_45 (by decide) (fun c_4 => ?_) (fun c_4 => ?_)
    · replace hs := if_n c_4 hs
      refine lv_iconst (v := 0) hx hb dX3_obstacle_52 (by decide) ?_
      cases hs
      exact hret _ _ _ _ hP hD hS (vp_nar_int _) dX3_obstacle_53
    · replace hs := if_p c_4 hs
      refine lv_iconst (v := 3) hx hb dX3_obstacle_48 (by decide) ?_
      refine lv_goto (tgt := 53) hx hb dX3_obstacle_49 (by decide) ?_
      cases hs
      exact hret _ _ _ _ hP hD hS (vp_nar_int _) dX3_obstacle_53
  replace hs := if_n c_3 hs
  refine lv_lookup (off := 53) (tgt := 54) hx hb dX3_obstacle_1 (by decide) (show Op.lookupswitch.offset [(33, 27), (110, 40)] 53 (Int32.toInt v1) = 53 from by rw [lv_osw c_1 (by decide), lv_osw c_3 (by decide)]; rfl) (by decide) ?_
  refine lv_aload_n hx hb dX3_obstacle_54 rfl (lv_at hl 0 rfl) ?_
  refine va_get (D := (dC, dI)) (ci := 3) (v := .int ro) (C := RX3) (T := TX3) (N := 6) hx hb hts (fun w h => kg1 (iG_3 w h)) hown hK hP 0 rfl rfl 5 (by decide) (hts _ (kg1 mG_45)) (fun _ h9 => h9) rfl dX3_obstacle_55 ?_
  refine lv_bipush (v := 99) hx hb dX3_obstacle_58 (by decide) ?_
  refine lv_icmp_lt (tgt := 67) hx hb dX3_obstacle_60 (by decide) (fun c_5 => ?_) (fun c_5 => ?_)
  · replace hs := if_p c_5 hs
    refine lv_iconst (v := 0) hx hb dX3_obstacle_67 (by decide) ?_
    cases hs
    exact hret _ _ _ _ hP hD hS (vp_nar_int _) dX3_obstacle_68
  · replace hs := if_n c_5 hs
    refine lv_iconst (v := 1) hx hb dX3_obstacle_63 (by decide) ?_
    refine lv_goto (tgt := 68) hx hb dX3_obstacle_64 (by decide) ?_
    cases hs
    exact hret _ _ _ _ hP hD hS (vp_nar_int _) dX3_obstacle_68
abbrev rm_X3_downBits : Room := { frames := 0, cells := 0, slots := 0, locals := 0 }
theorem hd_X3_downBits : yX3_downBits.cls ≠ "java/lang/invoke/MethodHandle" ∧ yX3_downBits.cls ≠ "java/lang/invoke/VarHandle" ∧ (parseMethodDescriptor yX3_downBits.desc).map (fun d => d.parameters.length) = some 0 := by decide +kernel
set_option maxHeartbeats 4000000 in
set_option maxRecDepth 100000 in
theorem k_X3_downBits (l : Launch) (dC : Nat → ClassId) (dI : Nat → Nat → Nat) (cI cZ cS : ClassId) (q3 q3fi q3to : Nat) (sz : Nat) (th : Int32) (he : Int32) (ma : Int32) (ro : Int32) (fi : Ar) (to : Ar)  (r0 : Int32) (hs : m_X3_downBits fi = some r0) : Met l yX3_downBits (.code yX3_downBits cX3_downBits 3 (some .int) :: kG) rm_X3_downBits (va_Pc [.ref q3] (kW (dC, dI) cI cZ cS [(q3, .inr (3, [.ref q3fi, .ref q3to, .int th, .int he, .int ma, .int ro])), (q3fi, .inl (cI, 12, .inl fi)), (q3to, .inl (cI, 12, .inl to))] sz)) (kQi (dC, dI) [(q3, .inr (3, [.ref q3fi, .ref q3to, .int th, .int he, .int ma, .int ro])), (q3fi, .inl (cI, 12, .inl fi)), (q3to, .inl (cI, 12, .inl to))] [(q3, .inr (3, [.ref q3fi, .ref q3to, .int th, .int he, .int ma, .int ro])), (q3fi, .inl (cI, 12, .inl fi)), (q3to, .inl (cI, 12, .inl to))] sz r0) 0 0 (va_A [(q3, .inr (3, [.ref q3fi, .ref q3to, .int th, .int he, .int ma, .int ro])), (q3fi, .inl (cI, 12, .inl fi)), (q3to, .inl (cI, 12, .inl to))] sz) := by
  refine kMi (own := RX3) (ty := .int) rfl (by decide) rfl ?_ (Nat.le_of_ble_eq_true rfl)
  intro p e s m args below meth c Q A CF hK hN hA hP hD hret ls hl
  have hS : va_S A s.heap s.heap [] := va_S.rf
  obtain ⟨hx, hb, hml, hown, hts⟩ := id CF
  have hl : lv_has ls 3 [(0, .ref q3)] := hl
  unfold m_X3_downBits at hs
  refine lv_iconst (v := 0) hx hb dX3_downBits_0 (by decide) ?_
  refine lv_istore_n (lv' := [(1, .int (0 : Int32)), (0, .ref q3)]) hx hb dX3_downBits_1 rfl hl (by decide) rfl (fun ls hl => ?_)
  refine lv_iconst (v := 0) hx hb dX3_downBits_2 (by decide) ?_
  refine lv_istore_n (lv' := [(2, .int (0 : Int32)), (1, .int (0 : Int32)), (0, .ref q3)]) hx hb dX3_downBits_3 rfl hl (by decide) rfl (fun ls hl => ?_)
  have hL_4 : ∀ (n : Nat) (v1 : Int32) (v2 : Int32) (H : Heap) (locs : List Loc) (ls : Array Slot), va_P (dC, dI) vwCl [(q3, .inr (3, [.ref q3fi, .ref q3to, .int th, .int he, .int ma, .int ro])), (q3fi, .inl (cI, 12, .inl fi)), (q3to, .inl (cI, 12, .inl to))] H → va_D A [(q3, .inr (3, [.ref q3fi, .ref q3to, .int th, .int he, .int ma, .int ro])), (q3fi, .inl (cI, 12, .inl fi)), (q3to, .inl (cI, 12, .inl to))] → va_S A s.heap H locs → lv_has ls 3 [(0, .ref q3), (1, .int v1), (2, .int v2)] → L_X3_downBits_4 fi n v1 v2 = some r0 → W p l e rm_X3_downBits s m args below meth c H locs 0 0 Q (F0 m 4 ls []) := by
    intro n
    induction n with
    | zero =>
      intro v1 v2 H locs ls hP hD hS hl hs
      replace hs : (none : Option (Int32)) = some r0 := hs
      cases hs
    | succ n_4 ih_4 =>
      intro v1 v2 H locs ls hP hD hS hl hs
      replace hs : b_X3_downBits_4  (L_X3_downBits_4 fi n_4) fi v1 v2 = some r0 := hs
      unfold b_X3_downBits_4 at hs
      refine lv_iload_n hx hb dX3_downBits_4 rfl (lv_at hl 2 rfl) ?_
      refine lv_bipush (v := 12) hx hb dX3_downBits_5 (by decide) ?_
      refine lv_icmp_ge (tgt := 31) hx hb dX3_downBits_7 (by decide) (fun c_1 => ?_) (fun c_1 => ?_)
      · replace hs := if_p c_1 hs
        refine lv_iload_n hx hb dX3_downBits_31 rfl (lv_at hl 1 rfl) ?_
        cases hs
        exact hret _ _ _ _ hP hD hS (vp_nar_int _) dX3_downBits_32
      · replace hs := if_n c_1 hs
        refine lv_aload_n hx hb dX3_downBits_10 rfl (lv_at hl 0 rfl) ?_
        refine va_get (D := (dC, dI)) (ci := 3) (v := .ref q3fi) (C := RX3) (T := TX3) (N := 6) hx hb hts (fun w h => kg1 (iG_3 w h)) hown hK hP 0 rfl rfl 0 (by decide) (hts _ (kg1 mG_21)) (fun _ h9 => h9) rfl dX3_downBits_11 ?_
        refine lv_iload_n hx hb dX3_downBits_14 rfl (lv_at hl 2 rfl) ?_
        obtain ⟨hg_2, hs⟩ := gd_e hs
        refine kald hx hb hK hP 1 0 rfl rfl (j := (Int32.toNatClampNeg v2)) rfl (inb_e hg_2) dX3_downBits_15 ?_
        refine lv_if_ne (tgt := 25) hx hb dX3_downBits_16 (by decide) (fun c_3 => ?_) (fun c_3 => ?_)
        · replace hs := if_n c_3 hs
          refine lv_iinc (v := (v2 + 1)) (lv' := [(2, .int (v2 + 1)), (0, .ref q3), (1, .int v1)]) hx hb dX3_downBits_25 hl (k := 2) rfl rfl (by decide) rfl (fun ls hl => ?_)
          refine lv_goto (tgt := 4) hx hb dX3_downBits_28 (by decide) ?_
          exact ih_4 v1 (v2 + 1) _ _ _ hP hD hS (lv_sub hl [1, 2, 0] rfl) hs
        · replace hs := if_p c_3 hs
          refine lv_iload_n hx hb dX3_downBits_19 rfl (lv_at hl 1 rfl) ?_
          refine lv_iconst (v := 1) hx hb dX3_downBits_20 (by decide) ?_
          refine lv_iload_n hx hb dX3_downBits_21 rfl (lv_at hl 2 rfl) ?_
          refine lv_ishl hx hb dX3_downBits_22 ?_
          refine lv_ior hx hb dX3_downBits_23 ?_
          refine lv_istore_n (lv' := [(1, .int (v1 ||| ((1 : Int32) <<< (v2 &&& 31)))), (0, .ref q3), (2, .int v2)]) hx hb dX3_downBits_24 rfl hl (by decide) rfl (fun ls hl => ?_)
          refine lv_iinc (v := (v2 + 1)) (lv' := [(2, .int (v2 + 1)), (1, .int (v1 ||| ((1 : Int32) <<< (v2 &&& 31)))), (0, .ref q3)]) hx hb dX3_downBits_25 hl (k := 2) rfl rfl (by decide) rfl (fun ls hl => ?_)
          refine lv_goto (tgt := 4) hx hb dX3_downBits_28 (by decide) ?_
          exact ih_4 (v1 ||| ((1 : Int32) <<< (v2 &&& 31))) (v2 + 1) _ _ _ hP hD hS (lv_sub hl [2, 1, 0] rfl) hs
  exact hL_4 fu (0 : Int32) (0 : Int32) _ _ _ hP hD hS (lv_sub hl [2, 1, 0] rfl) hs
abbrev rm_X3_isSpared : Room := { frames := 0, cells := 0, slots := 0, locals := 0 }
theorem hd_X3_isSpared : yX3_isSpared.cls ≠ "java/lang/invoke/MethodHandle" ∧ yX3_isSpared.cls ≠ "java/lang/invoke/VarHandle" ∧ (parseMethodDescriptor yX3_isSpared.desc).map (fun d => d.parameters.length) = some 1 := by decide +kernel
set_option maxHeartbeats 4000000 in
set_option maxRecDepth 100000 in
theorem k_X3_isSpared (l : Launch) (dC : Nat → ClassId) (dI : Nat → Nat → Nat) (cI cZ cS : ClassId) (q3 q3fi q3to : Nat) (sz : Nat) (th : Int32) (he : Int32) (ma : Int32) (ro : Int32) (fi : Ar) (to : Ar) (v1 : Int32) (r0 : Int32) (hs : m_X3_isSpared v1 th fi = some r0) : Met l yX3_isSpared (.code yX3_isSpared cX3_isSpared 2 (some .boolean) :: kG) rm_X3_isSpared (va_Pc [.ref q3, .int v1] (kW (dC, dI) cI cZ cS [(q3, .inr (3, [.ref q3fi, .ref q3to, .int th, .int he, .int ma, .int ro])), (q3fi, .inl (cI, 12, .inl fi)), (q3to, .inl (cI, 12, .inl to))] sz)) (kQi (dC, dI) [(q3, .inr (3, [.ref q3fi, .ref q3to, .int th, .int he, .int ma, .int ro])), (q3fi, .inl (cI, 12, .inl fi)), (q3to, .inl (cI, 12, .inl to))] [(q3, .inr (3, [.ref q3fi, .ref q3to, .int th, .int he, .int ma, .int ro])), (q3fi, .inl (cI, 12, .inl fi)), (q3to, .inl (cI, 12, .inl to))] sz r0) 0 0 (va_A [(q3, .inr (3, [.ref q3fi, .ref q3to, .int th, .int he, .int ma, .int ro])), (q3fi, .inl (cI, 12, .inl fi)), (q3to, .inl (cI, 12, .inl to))] sz) := by
  refine kMi (own := RX3) (ty := .boolean) rfl (by decide) rfl ?_ (Nat.le_of_ble_eq_true rfl)
  intro p e s m args below meth c Q A CF hK hN hA hP hD hret ls hl
  have hS : va_S A s.heap s.heap [] := va_S.rf
  obtain ⟨hx, hb, hml, hown, hts⟩ := id CF
  have hl : lv_has ls 2 [(0, .ref q3), (1, .int v1)] := hl
  unfold m_X3_isSpared at hs
  refine lv_aload_n hx hb dX3_isSpared_0 rfl (lv_at hl 0 rfl) ?_
  refine va_get (D := (dC, dI)) (ci := 3) (v := .ref q3fi) (C := RX3) (T := TX3) (N := 6) hx hb hts (fun w h => kg1 (iG_3 w h)) hown hK hP 0 rfl rfl 0 (by decide) (hts _ (kg1 mG_21)) (fun _ h9 => h9) rfl dX3_isSpared_1 ?_
  refine lv_iload_n hx hb dX3_isSpared_4 rfl (lv_at hl 1 rfl) ?_
  obtain ⟨hg_1, hs⟩ := gd_e hs
  refine kald hx hb hK hP 1 0 rfl rfl (j := (Int32.toNatClampNeg v1)) rfl (inb_e hg_1) dX3_isSpared_5 ?_
  refine lv_if_le (tgt := 25) hx hb dX3_isSpared_6 (by decide) (fun c_2 => ?_) (fun c_2 => ?_)
  · replace hs := if_p c_2 hs
    refine lv_iconst (v := 0) hx hb dX3_isSpared_25 (by decide) ?_
    cases hs
    exact hret _ _ _ _ hP hD hS rfl dX3_isSpared_26
  · replace hs := if_n c_2 hs
    refine lv_aload_n hx hb dX3_isSpared_9 rfl (lv_at hl 0 rfl) ?_
    refine va_get (D := (dC, dI)) (ci := 3) (v := .int th) (C := RX3) (T := TX3) (N := 6) hx hb hts (fun w h => kg1 (iG_3 w h)) hown hK hP 0 rfl rfl 2 (by decide) (hts _ (kg1 mG_42)) (fun _ h9 => h9) rfl dX3_isSpared_10 ?_
    refine lv_iload_n hx hb dX3_isSpared_13 rfl (lv_at hl 1 rfl) ?_
    refine lv_ishr hx hb dX3_isSpared_14 ?_
    refine lv_iconst (v := 1) hx hb dX3_isSpared_15 (by decide) ?_
    refine lv_iand hx hb dX3_isSpared_16 ?_
    refine lv_iconst (v := 1) hx hb dX3_isSpared_17 (by decide) ?_
    refine lv_icmp_ne (tgt := 25) hx hb dX3_isSpared_18 (by decide) (fun c_3 => ?_) (fun c_3 => ?_)
    · replace hs := if_n c_3 hs
      refine lv_iconst (v := 0) hx hb dX3_isSpared_25 (by decide) ?_
      cases hs
      exact hret _ _ _ _ hP hD hS rfl dX3_isSpared_26
    · replace hs := if_p c_3 hs
      refine lv_iconst (v := 1) hx hb dX3_isSpared_21 (by decide) ?_
      refine lv_goto (tgt := 26) hx hb dX3_isSpared_22 (by decide) ?_
      cases hs
      exact hret _ _ _ _ hP hD hS rfl dX3_isSpared_26
abbrev rm_X3_leastLeft : Room := { frames := 1, cells := 0, slots := 0, locals := 21 }
theorem hd_X3_leastLeft : yX3_leastLeft.cls ≠ "java/lang/invoke/MethodHandle" ∧ yX3_leastLeft.cls ≠ "java/lang/invoke/VarHandle" ∧ (parseMethodDescriptor yX3_leastLeft.desc).map (fun d => d.parameters.length) = some 1 := by decide +kernel
set_option maxHeartbeats 4000000 in
set_option maxRecDepth 100000 in
theorem k_X3_leastLeft (l : Launch) (dC : Nat → ClassId) (dI : Nat → Nat → Nat) (cI cZ cS : ClassId) (q3 q3fi q3to : Nat) (sz : Nat) (th : Int32) (he : Int32) (ma : Int32) (ro : Int32) (fi : Ar) (to : Ar) (v1 : Int32) (r0 : Int32) (hs : m_X3_leastLeft v1 th fi = some r0) : Met l yX3_leastLeft (.code yX3_leastLeft cX3_leastLeft 2 (some .int) :: kG) rm_X3_leastLeft (va_Pc [.ref q3, .int v1] (kW (dC, dI) cI cZ cS [(q3, .inr (3, [.ref q3fi, .ref q3to, .int th, .int he, .int ma, .int ro])), (q3fi, .inl (cI, 12, .inl fi)), (q3to, .inl (cI, 12, .inl to))] sz)) (kQi (dC, dI) [(q3, .inr (3, [.ref q3fi, .ref q3to, .int th, .int he, .int ma, .int ro])), (q3fi, .inl (cI, 12, .inl fi)), (q3to, .inl (cI, 12, .inl to))] [(q3, .inr (3, [.ref q3fi, .ref q3to, .int th, .int he, .int ma, .int ro])), (q3fi, .inl (cI, 12, .inl fi)), (q3to, .inl (cI, 12, .inl to))] sz r0) 0 0 (va_A [(q3, .inr (3, [.ref q3fi, .ref q3to, .int th, .int he, .int ma, .int ro])), (q3fi, .inl (cI, 12, .inl fi)), (q3to, .inl (cI, 12, .inl to))] sz) := by
  refine kMi (own := RX3) (ty := .int) rfl (by decide) rfl ?_ (Nat.le_of_ble_eq_true rfl)
  intro p e s m args below meth c Q A CF hK hN hA hP hD hret ls hl
  have hS : va_S A s.heap s.heap [] := va_S.rf
  obtain ⟨hx, hb, hml, hown, hts⟩ := id CF
  have hl : lv_has ls 2 [(0, .ref q3), (1, .int v1)] := hl
  unfold m_X3_leastLeft at hs
  refine lv_aload_n hx hb dX3_leastLeft_0 rfl (lv_at hl 0 rfl) ?_
  refine lv_iload_n hx hb dX3_leastLeft_1 rfl (lv_at hl 1 rfl) ?_
  obtain ⟨r_1, hc_2, hs⟩ := ob1_e hs
  refine kci (wr := []) (ws' := [(q3, .inr (3, [.ref q3fi, .ref q3to, .int th, .int he, .int ma, .int ro])), (q3fi, .inl (cI, 12, .inl fi)), (q3to, .inl (cI, 12, .inl to))]) (va_runV (As := [.int v1]) (rest := []) ⟨hx, hb, hml, hown, hts⟩ (k_X3_isSpared l dC dI cI cZ cS q3 q3fi q3to s.heap.size th he ma ro fi to v1 r_1 hc_2) (cwV 1 hts (kGood (kgV mG_78 mG_79 mG_80 mG_30 mG_76)) rfl rfl rfl ⟨rfl, hd_X3_isSpared⟩ ⟨Nat.le_of_ble_eq_true rfl, Nat.le_of_ble_eq_true rfl⟩) (kpV hK hN (hP.sub (ws' := [(q3, .inr (3, [.ref q3fi, .ref q3to, .int th, .int he, .int ma, .int ro])), (q3fi, .inl (cI, 12, .inl fi)), (q3to, .inl (cI, 12, .inl to))]) [0, 1, 2] rfl) (hD.sub (ws' := [(q3, .inr (3, [.ref q3fi, .ref q3to, .int th, .int he, .int ma, .int ro])), (q3fi, .inl (cI, 12, .inl fi)), (q3to, .inl (cI, 12, .inl to))]) [0, 1, 2] rfl rfl) rfl rfl rfl) rfl rfl hl.1 rfl (lv_room (Nat.le_of_ble_eq_true rfl)) dX3_leastLeft_2 ⟨Nat.zero_le _, Nat.zero_le _⟩) hP hD hS hA [0, 1, 2] [] [0, 1, 2] rfl rfl rfl (by decide) rfl rfl (fun H locs hP hD hS => ?_)
  refine lv_if_eq (tgt := 12) hx hb dX3_leastLeft_5 (by decide) (fun c_3 => ?_) (fun c_3 => ?_)
  · replace hs := if_p c_3 hs
    refine lv_iconst (v := 0) hx hb dX3_leastLeft_12 (by decide) ?_
    cases hs
    exact hret _ _ _ _ hP hD hS (vp_nar_int _) dX3_leastLeft_13
  · replace hs := if_n c_3 hs
    refine lv_iconst (v := 1) hx hb dX3_leastLeft_8 (by decide) ?_
    refine lv_goto (tgt := 13) hx hb dX3_leastLeft_9 (by decide) ?_
    cases hs
    exact hret _ _ _ _ hP hD hS (vp_nar_int _) dX3_leastLeft_13
abbrev rm_X3_blow : Room := { frames := 2, cells := 0, slots := 0, locals := 42 }
theorem hd_X3_blow : yX3_blow.cls ≠ "java/lang/invoke/MethodHandle" ∧ yX3_blow.cls ≠ "java/lang/invoke/VarHandle" ∧ (parseMethodDescriptor yX3_blow.desc).map (fun d => d.parameters.length) = some 1 := by decide +kernel
set_option maxHeartbeats 4000000 in
set_option maxRecDepth 100000 in
theorem k_X3_blow (l : Launch) (dC : Nat → ClassId) (dI : Nat → Nat → Nat) (cI cZ cS : ClassId) (q3 q3fi q3to : Nat) (sz : Nat) (th : Int32) (he : Int32) (ma : Int32) (ro : Int32) (fi : Ar) (to : Ar) (v1 : Int32) (fi_o : Ar) (hs : m_X3_blow v1 th fi to = some fi_o) : Met l yX3_blow (.code yX3_blow cX3_blow 3 none :: kG) rm_X3_blow (va_Pc [.ref q3, .int v1] (kW (dC, dI) cI cZ cS [(q3, .inr (3, [.ref q3fi, .ref q3to, .int th, .int he, .int ma, .int ro])), (q3fi, .inl (cI, 12, .inl fi)), (q3to, .inl (cI, 12, .inl to))] sz)) (kQv (dC, dI) [(q3, .inr (3, [.ref q3fi, .ref q3to, .int th, .int he, .int ma, .int ro])), (q3fi, .inl (cI, 12, .inl fi)), (q3to, .inl (cI, 12, .inl to))] [(q3, .inr (3, [.ref q3fi, .ref q3to, .int th, .int he, .int ma, .int ro])), (q3fi, .inl (cI, 12, .inl fi_o)), (q3to, .inl (cI, 12, .inl to))] sz) 0 0 (va_A [(q3, .inr (3, [.ref q3fi, .ref q3to, .int th, .int he, .int ma, .int ro])), (q3fi, .inl (cI, 12, .inl fi)), (q3to, .inl (cI, 12, .inl to))] sz) := by
  refine kMv (own := RX3) (by decide) rfl ?_ (Nat.le_of_ble_eq_true rfl)
  intro p e s m args below meth c Q A CF hK hN hA hP hD hret ls hl
  have hS : va_S A s.heap s.heap [] := va_S.rf
  obtain ⟨hx, hb, hml, hown, hts⟩ := id CF
  have hl : lv_has ls 3 [(0, .ref q3), (1, .int v1)] := hl
  unfold m_X3_blow at hs
  refine lv_iconst (v := 0) hx hb dX3_blow_0 (by decide) ?_
  refine lv_istore_n (lv' := [(2, .int (0 : Int32)), (0, .ref q3), (1, .int v1)]) hx hb dX3_blow_1 rfl hl (by decide) rfl (fun ls hl => ?_)
  have hL_2 : ∀ (n : Nat) (v2 : Int32) (fi : Ar) (H : Heap) (locs : List Loc) (ls : Array Slot), va_P (dC, dI) vwCl [(q3, .inr (3, [.ref q3fi, .ref q3to, .int th, .int he, .int ma, .int ro])), (q3fi, .inl (cI, 12, .inl fi)), (q3to, .inl (cI, 12, .inl to))] H → va_D A [(q3, .inr (3, [.ref q3fi, .ref q3to, .int th, .int he, .int ma, .int ro])), (q3fi, .inl (cI, 12, .inl fi)), (q3to, .inl (cI, 12, .inl to))] → va_S A s.heap H locs → lv_has ls 3 [(0, .ref q3), (1, .int v1), (2, .int v2)] → L_X3_blow_2 v1 th to n v2 fi = some fi_o → W p l e rm_X3_blow s m args below meth c H locs 0 0 Q (F0 m 2 ls []) := by
    intro n
    induction n with
    | zero =>
      intro v2 fi H locs ls hP hD hS hl hs
      replace hs : (none : Option (Ar)) = some fi_o := hs
      cases hs
    | succ n_2 ih_2 =>
      intro v2 fi H locs ls hP hD hS hl hs
      replace hs : b_X3_blow_2  (L_X3_blow_2 v1 th to n_2) v1 th to v2 fi = some fi_o := hs
      unfold b_X3_blow_2 at hs
      refine lv_iload_n hx hb dX3_blow_2 rfl (lv_at hl 2 rfl) ?_
      refine lv_bipush (v := 12) hx hb dX3_blow_3 (by decide) ?_
      refine lv_icmp_ge (tgt := 45) hx hb dX3_blow_5 (by decide) (fun c_1 => ?_) (fun c_1 => ?_)
      · replace hs := if_p c_1 hs
        cases hs
        exact hret _ _ _ _ hP hD hS dX3_blow_45
      · replace hs := if_n c_1 hs
        refine lv_aload_n hx hb dX3_blow_8 rfl (lv_at hl 0 rfl) ?_
        refine va_get (D := (dC, dI)) (ci := 3) (v := .ref q3fi) (C := RX3) (T := TX3) (N := 6) hx hb hts (fun w h => kg1 (iG_3 w h)) hown hK hP 0 rfl rfl 0 (by decide) (hts _ (kg1 mG_21)) (fun _ h9 => h9) rfl dX3_blow_9 ?_
        refine lv_iload_n hx hb dX3_blow_12 rfl (lv_at hl 2 rfl) ?_
        refine lv_aload_n hx hb dX3_blow_13 rfl (lv_at hl 0 rfl) ?_
        refine lv_iload_n hx hb dX3_blow_14 rfl (lv_at hl 2 rfl) ?_
        obtain ⟨r_2, hc_3, hs⟩ := ob1_e hs
        refine kci (wr := []) (ws' := [(q3, .inr (3, [.ref q3fi, .ref q3to, .int th, .int he, .int ma, .int ro])), (q3fi, .inl (cI, 12, .inl fi)), (q3to, .inl (cI, 12, .inl to))]) (va_runV (As := [.int v2]) (rest := [.int v2, .ref q3fi]) ⟨hx, hb, hml, hown, hts⟩ (k_X3_leastLeft l dC dI cI cZ cS q3 q3fi q3to H.size th he ma ro fi to v2 r_2 hc_3) (cwV 1 hts (kGood (kgV mG_87 mG_88 mG_89 mG_30 mG_77)) rfl rfl rfl ⟨rfl, hd_X3_leastLeft⟩ ⟨Nat.le_of_ble_eq_true rfl, Nat.le_of_ble_eq_true rfl⟩) (kpV hK hN (hP.sub (ws' := [(q3, .inr (3, [.ref q3fi, .ref q3to, .int th, .int he, .int ma, .int ro])), (q3fi, .inl (cI, 12, .inl fi)), (q3to, .inl (cI, 12, .inl to))]) [0, 1, 2] rfl) (hD.sub (ws' := [(q3, .inr (3, [.ref q3fi, .ref q3to, .int th, .int he, .int ma, .int ro])), (q3fi, .inl (cI, 12, .inl fi)), (q3to, .inl (cI, 12, .inl to))]) [0, 1, 2] rfl rfl) rfl rfl rfl) rfl rfl hl.1 rfl (lv_room (Nat.le_of_ble_eq_true rfl)) dX3_blow_15 ⟨Nat.zero_le _, Nat.zero_le _⟩) hP hD hS hA [0, 1, 2] [] [0, 1, 2] rfl rfl rfl (by decide) rfl rfl (fun H locs hP hD hS => ?_)
        refine lv_aload_n hx hb dX3_blow_18 rfl (lv_at hl 0 rfl) ?_
        refine va_get (D := (dC, dI)) (ci := 3) (v := .ref q3fi) (C := RX3) (T := TX3) (N := 6) hx hb hts (fun w h => kg1 (iG_3 w h)) hown hK hP 0 rfl rfl 0 (by decide) (hts _ (kg1 mG_21)) (fun _ h9 => h9) rfl dX3_blow_19 ?_
        refine lv_iload_n hx hb dX3_blow_22 rfl (lv_at hl 2 rfl) ?_
        obtain ⟨hg_4, hs⟩ := gd_e hs
        refine kald hx hb hK hP 1 0 rfl rfl (j := (Int32.toNatClampNeg v2)) rfl (inb_e hg_4) dX3_blow_23 ?_
        refine lv_iload_n hx hb dX3_blow_24 rfl (lv_at hl 1 rfl) ?_
        refine lv_aload_n hx hb dX3_blow_25 rfl (lv_at hl 0 rfl) ?_
        refine va_get (D := (dC, dI)) (ci := 3) (v := .ref q3to) (C := RX3) (T := TX3) (N := 6) hx hb hts (fun w h => kg1 (iG_3 w h)) hown hK hP 0 rfl rfl 1 (by decide) (hts _ (kg1 mG_22)) (fun _ h9 => h9) rfl dX3_blow_26 ?_
        refine lv_iload_n hx hb dX3_blow_29 rfl (lv_at hl 2 rfl) ?_
        refine kald hx hb hK hP 2 0 rfl rfl (j := (Int32.toNatClampNeg v2)) rfl (inb_e hg_4) dX3_blow_30 ?_
        refine kpi (va_runSN (As := [.int v1, .int (to (Int32.toNatClampNeg v2))]) (rest := [.int (fi (Int32.toNatClampNeg v2)), .int r_2, .int v2, .ref q3fi]) ⟨hx, hb, hml, hown, hts⟩ (k_X4_echo l v1 (to (Int32.toNatClampNeg v2)) _ rfl) ⟨va_cnB 2 hts (kGood (kgs mG_81)) rfl rfl rfl hN.2.2.2.1 (hts _ (kg1 mG_13)) hd_X4_echo ⟨Nat.le_of_ble_eq_true rfl, Nat.le_of_ble_eq_true rfl⟩, hts _ (kg1 mG_90), trivial⟩ preEq rfl rfl hl.1 rfl (lv_room (Nat.le_of_ble_eq_true rfl)) dX3_blow_31 ⟨Nat.zero_le _, Nat.zero_le _⟩) ?_
        refine lv_isub hx hb dX3_blow_34 ?_
        refine va_mmax hx hb (by rw [hml]; exact hl.1.symm) hown (hts _ (kg1 mG_83)) (hts _ (kg1 mG_84)) (hts _ (kg1 mG_85)) (hts _ (kg1 mG_86)) (Nat.le_of_ble_eq_true rfl) (Nat.le_of_ble_eq_true rfl) (Nat.zero_le _) (Nat.zero_le _) dX3_blow_35 ?_
        refine lv_topi (fun w_5 ew_5 => ?_)
        replace hs := bnd_e ew_5 hs
        refine kast hx hb hK hP hD hS 1 0 rfl rfl (j := (Int32.toNatClampNeg v2)) rfl (inb_e hg_4) dX3_blow_38 (fun H locs hP hD hS => ?_)
        have hP : va_P (dC, dI) vwCl [(q3, .inr (3, [.ref q3fi, .ref q3to, .int th, .int he, .int ma, .int ro])), (q3fi, .inl (cI, 12, .inl (upd fi (Int32.toNatClampNeg v2) w_5))), (q3to, .inl (cI, 12, .inl to))] H := hP
        have hD : va_D A [(q3, .inr (3, [.ref q3fi, .ref q3to, .int th, .int he, .int ma, .int ro])), (q3fi, .inl (cI, 12, .inl (upd fi (Int32.toNatClampNeg v2) w_5))), (q3to, .inl (cI, 12, .inl to))] := hD
        refine lv_iinc (v := (v2 + 1)) (lv' := [(2, .int (v2 + 1)), (0, .ref q3), (1, .int v1)]) hx hb dX3_blow_39 hl (k := 2) rfl rfl (by decide) rfl (fun ls hl => ?_)
        refine lv_goto (tgt := 2) hx hb dX3_blow_42 (by decide) ?_
        exact ih_2 (v2 + 1) (upd fi (Int32.toNatClampNeg v2) w_5) _ _ _ hP hD hS (lv_sub hl [1, 2, 0] rfl) hs
  exact hL_2 fu (0 : Int32) fi _ _ _ hP hD hS (lv_sub hl [1, 2, 0] rfl) hs
abbrev rm_X3_letOut : Room := { frames := 2, cells := 0, slots := 0, locals := 42 }
theorem hd_X3_letOut : yX3_letOut.cls ≠ "java/lang/invoke/MethodHandle" ∧ yX3_letOut.cls ≠ "java/lang/invoke/VarHandle" ∧ (parseMethodDescriptor yX3_letOut.desc).map (fun d => d.parameters.length) = some 0 := by decide +kernel
set_option maxHeartbeats 4000000 in
set_option maxRecDepth 100000 in
theorem k_X3_letOut (l : Launch) (dC : Nat → ClassId) (dI : Nat → Nat → Nat) (cI cZ cS : ClassId) (q3 q3fi q3to : Nat) (sz : Nat) (th : Int32) (he : Int32) (ma : Int32) (ro : Int32) (fi : Ar) (to : Ar)  (he_o : Int32) (fi_o : Ar) (hs : m_X3_letOut th he fi = some (he_o, fi_o)) : Met l yX3_letOut (.code yX3_letOut cX3_letOut 2 none :: kG) rm_X3_letOut (va_Pc [.ref q3] (kW (dC, dI) cI cZ cS [(q3, .inr (3, [.ref q3fi, .ref q3to, .int th, .int he, .int ma, .int ro])), (q3fi, .inl (cI, 12, .inl fi)), (q3to, .inl (cI, 12, .inl to))] sz)) (kQv (dC, dI) [(q3, .inr (3, [.ref q3fi, .ref q3to, .int th, .int he, .int ma, .int ro])), (q3fi, .inl (cI, 12, .inl fi)), (q3to, .inl (cI, 12, .inl to))] [(q3, .inr (3, [.ref q3fi, .ref q3to, .int th, .int he_o, .int ma, .int ro])), (q3fi, .inl (cI, 12, .inl fi_o)), (q3to, .inl (cI, 12, .inl to))] sz) 0 0 (va_A [(q3, .inr (3, [.ref q3fi, .ref q3to, .int th, .int he, .int ma, .int ro])), (q3fi, .inl (cI, 12, .inl fi)), (q3to, .inl (cI, 12, .inl to))] sz) := by
  refine kMv (own := RX3) (by decide) rfl ?_ (Nat.le_of_ble_eq_true rfl)
  intro p e s m args below meth c Q A CF hK hN hA hP hD hret ls hl
  have hS : va_S A s.heap s.heap [] := va_S.rf
  obtain ⟨hx, hb, hml, hown, hts⟩ := id CF
  have hl : lv_has ls 2 [(0, .ref q3)] := hl
  unfold m_X3_letOut at hs
  refine lv_iconst (v := 0) hx hb dX3_letOut_0 (by decide) ?_
  refine lv_istore_n (lv' := [(1, .int (0 : Int32)), (0, .ref q3)]) hx hb dX3_letOut_1 rfl hl (by decide) rfl (fun ls hl => ?_)
  have hL_2 : ∀ (n : Nat) (v1 : Int32) (he : Int32) (fi : Ar) (H : Heap) (locs : List Loc) (ls : Array Slot), va_P (dC, dI) vwCl [(q3, .inr (3, [.ref q3fi, .ref q3to, .int th, .int he, .int ma, .int ro])), (q3fi, .inl (cI, 12, .inl fi)), (q3to, .inl (cI, 12, .inl to))] H → va_D A [(q3, .inr (3, [.ref q3fi, .ref q3to, .int th, .int he, .int ma, .int ro])), (q3fi, .inl (cI, 12, .inl fi)), (q3to, .inl (cI, 12, .inl to))] → va_S A s.heap H locs → lv_has ls 2 [(0, .ref q3), (1, .int v1)] → L_X3_letOut_2 th he n v1 fi = some (he_o, fi_o) → W p l e rm_X3_letOut s m args below meth c H locs 0 0 Q (F0 m 2 ls []) := by
    intro n
    induction n with
    | zero =>
      intro v1 he fi H locs ls hP hD hS hl hs
      replace hs : (none : Option (Int32 × Ar)) = some (he_o, fi_o) := hs
      cases hs
    | succ n_2 ih_2 =>
      intro v1 he fi H locs ls hP hD hS hl hs
      replace hs : b_X3_letOut_2  (L_X3_letOut_2 th he n_2) th he v1 fi = some (he_o, fi_o) := hs
      unfold b_X3_letOut_2 at hs
      refine lv_iload_n hx hb dX3_letOut_2 rfl (lv_at hl 1 rfl) ?_
      refine lv_bipush (v := 12) hx hb dX3_letOut_3 (by decide) ?_
      refine lv_icmp_ge (tgt := 39) hx hb dX3_letOut_5 (by decide) (fun c_1 => ?_) (fun c_1 => ?_)
      · replace hs := if_p c_1 hs
        refine lv_aload_n hx hb dX3_letOut_39 rfl (lv_at hl 0 rfl) ?_
        refine lv_iconst (v := 0) hx hb dX3_letOut_40 (by decide) ?_
        refine va_put (D := (dC, dI)) (ci := 3) (v := .int (0 : Int32)) (ty := .int) (C := RX3) (T := TX3) (N := 6) hx hb hts (fun w h => kg1 (iG_3 w h)) tyX3 tyX3_ok nmX3 hown hK hP hD hS 0 rfl rfl 3 (by decide) (hts _ (kg1 mG_43)) (fun _ h9 => h9) rfl rfl rfl rfl (Nat.le_of_ble_eq_true rfl) dX3_letOut_41 (fun H locs hP hD hS => ?_)
        have hP : va_P (dC, dI) vwCl [(q3, .inr (3, [.ref q3fi, .ref q3to, .int th, .int (0 : Int32), .int ma, .int ro])), (q3fi, .inl (cI, 12, .inl fi)), (q3to, .inl (cI, 12, .inl to))] H := hP
        have hD : va_D A [(q3, .inr (3, [.ref q3fi, .ref q3to, .int th, .int (0 : Int32), .int ma, .int ro])), (q3fi, .inl (cI, 12, .inl fi)), (q3to, .inl (cI, 12, .inl to))] := hD
        cases hs
        exact hret _ _ _ _ hP hD hS dX3_letOut_44
      · replace hs := if_n c_1 hs
        refine lv_aload_n hx hb dX3_letOut_8 rfl (lv_at hl 0 rfl) ?_
        refine va_get (D := (dC, dI)) (ci := 3) (v := .ref q3fi) (C := RX3) (T := TX3) (N := 6) hx hb hts (fun w h => kg1 (iG_3 w h)) hown hK hP 0 rfl rfl 0 (by decide) (hts _ (kg1 mG_21)) (fun _ h9 => h9) rfl dX3_letOut_9 ?_
        refine lv_iload_n hx hb dX3_letOut_12 rfl (lv_at hl 1 rfl) ?_
        refine lv_aload_n hx hb dX3_letOut_13 rfl (lv_at hl 0 rfl) ?_
        refine lv_iload_n hx hb dX3_letOut_14 rfl (lv_at hl 1 rfl) ?_
        obtain ⟨r_2, hc_3, hs⟩ := ob1_e hs
        refine kci (wr := []) (ws' := [(q3, .inr (3, [.ref q3fi, .ref q3to, .int th, .int he, .int ma, .int ro])), (q3fi, .inl (cI, 12, .inl fi)), (q3to, .inl (cI, 12, .inl to))]) (va_runV (As := [.int v1]) (rest := [.int v1, .ref q3fi]) ⟨hx, hb, hml, hown, hts⟩ (k_X3_leastLeft l dC dI cI cZ cS q3 q3fi q3to H.size th he ma ro fi to v1 r_2 hc_3) (cwV 1 hts (kGood (kgV mG_87 mG_88 mG_89 mG_30 mG_77)) rfl rfl rfl ⟨rfl, hd_X3_leastLeft⟩ ⟨Nat.le_of_ble_eq_true rfl, Nat.le_of_ble_eq_true rfl⟩) (kpV hK hN (hP.sub (ws' := [(q3, .inr (3, [.ref q3fi, .ref q3to, .int th, .int he, .int ma, .int ro])), (q3fi, .inl (cI, 12, .inl fi)), (q3to, .inl (cI, 12, .inl to))]) [0, 1, 2] rfl) (hD.sub (ws' := [(q3, .inr (3, [.ref q3fi, .ref q3to, .int th, .int he, .int ma, .int ro])), (q3fi, .inl (cI, 12, .inl fi)), (q3to, .inl (cI, 12, .inl to))]) [0, 1, 2] rfl rfl) rfl rfl rfl) rfl rfl hl.1 rfl (lv_room (Nat.le_of_ble_eq_true rfl)) dX3_letOut_15 ⟨Nat.zero_le _, Nat.zero_le _⟩) hP hD hS hA [0, 1, 2] [] [0, 1, 2] rfl rfl rfl (by decide) rfl rfl (fun H locs hP hD hS => ?_)
        refine lv_aload_n hx hb dX3_letOut_18 rfl (lv_at hl 0 rfl) ?_
        refine va_get (D := (dC, dI)) (ci := 3) (v := .ref q3fi) (C := RX3) (T := TX3) (N := 6) hx hb hts (fun w h => kg1 (iG_3 w h)) hown hK hP 0 rfl rfl 0 (by decide) (hts _ (kg1 mG_21)) (fun _ h9 => h9) rfl dX3_letOut_19 ?_
        refine lv_iload_n hx hb dX3_letOut_22 rfl (lv_at hl 1 rfl) ?_
        obtain ⟨hg_4, hs⟩ := gd_e hs
        refine kald hx hb hK hP 1 0 rfl rfl (j := (Int32.toNatClampNeg v1)) rfl (inb_e hg_4) dX3_letOut_23 ?_
        refine lv_aload_n hx hb dX3_letOut_24 rfl (lv_at hl 0 rfl) ?_
        refine va_get (D := (dC, dI)) (ci := 3) (v := .int he) (C := RX3) (T := TX3) (N := 6) hx hb hts (fun w h => kg1 (iG_3 w h)) hown hK hP 0 rfl rfl 3 (by decide) (hts _ (kg1 mG_43)) (fun _ h9 => h9) rfl dX3_letOut_25 ?_
        refine lv_isub hx hb dX3_letOut_28 ?_
        refine va_mmax hx hb (by rw [hml]; exact hl.1.symm) hown (hts _ (kg1 mG_83)) (hts _ (kg1 mG_84)) (hts _ (kg1 mG_85)) (hts _ (kg1 mG_86)) (Nat.le_of_ble_eq_true rfl) (Nat.le_of_ble_eq_true rfl) (Nat.zero_le _) (Nat.zero_le _) dX3_letOut_29 ?_
        refine kast hx hb hK hP hD hS 1 0 rfl rfl (j := (Int32.toNatClampNeg v1)) rfl (inb_e hg_4) dX3_letOut_32 (fun H locs hP hD hS => ?_)
        have hP : va_P (dC, dI) vwCl [(q3, .inr (3, [.ref q3fi, .ref q3to, .int th, .int he, .int ma, .int ro])), (q3fi, .inl (cI, 12, .inl (upd fi (Int32.toNatClampNeg v1) (imax r_2 ((fi (Int32.toNatClampNeg v1)) - he))))), (q3to, .inl (cI, 12, .inl to))] H := hP
        have hD : va_D A [(q3, .inr (3, [.ref q3fi, .ref q3to, .int th, .int he, .int ma, .int ro])), (q3fi, .inl (cI, 12, .inl (upd fi (Int32.toNatClampNeg v1) (imax r_2 ((fi (Int32.toNatClampNeg v1)) - he))))), (q3to, .inl (cI, 12, .inl to))] := hD
        refine lv_iinc (v := (v1 + 1)) (lv' := [(1, .int (v1 + 1)), (0, .ref q3)]) hx hb dX3_letOut_33 hl (k := 1) rfl rfl (by decide) rfl (fun ls hl => ?_)
        refine lv_goto (tgt := 2) hx hb dX3_letOut_36 (by decide) ?_
        exact ih_2 (v1 + 1) he (upd fi (Int32.toNatClampNeg v1) (imax r_2 ((fi (Int32.toNatClampNeg v1)) - he))) _ _ _ hP hD hS (lv_sub hl [1, 0] rfl) hs
  exact hL_2 fu (0 : Int32) he fi _ _ _ hP hD hS (lv_sub hl [1, 0] rfl) hs
abbrev rm_X3_leastFirmBeside : Room := { frames := 0, cells := 0, slots := 0, locals := 0 }
theorem hd_X3_leastFirmBeside : yX3_leastFirmBeside.cls ≠ "java/lang/invoke/MethodHandle" ∧ yX3_leastFirmBeside.cls ≠ "java/lang/invoke/VarHandle" ∧ (parseMethodDescriptor yX3_leastFirmBeside.desc).map (fun d => d.parameters.length) = some 1 := by decide +kernel
set_option maxHeartbeats 4000000 in
set_option maxRecDepth 100000 in
theorem k_X3_leastFirmBeside (l : Launch) (dC : Nat → ClassId) (dI : Nat → Nat → Nat) (cI cZ cS : ClassId) (q3 q3fi q3to : Nat) (sz : Nat) (th : Int32) (he : Int32) (ma : Int32) (ro : Int32) (fi : Ar) (to : Ar) (v1 : Int32) (r0 : Int32) (hs : m_X3_leastFirmBeside v1 fi = some r0) : Met l yX3_leastFirmBeside (.code yX3_leastFirmBeside cX3_leastFirmBeside 5 (some .int) :: kG) rm_X3_leastFirmBeside (va_Pc [.ref q3, .int v1] (kW (dC, dI) cI cZ cS [(q3, .inr (3, [.ref q3fi, .ref q3to, .int th, .int he, .int ma, .int ro])), (q3fi, .inl (cI, 12, .inl fi)), (q3to, .inl (cI, 12, .inl to))] sz)) (kQi (dC, dI) [(q3, .inr (3, [.ref q3fi, .ref q3to, .int th, .int he, .int ma, .int ro])), (q3fi, .inl (cI, 12, .inl fi)), (q3to, .inl (cI, 12, .inl to))] [(q3, .inr (3, [.ref q3fi, .ref q3to, .int th, .int he, .int ma, .int ro])), (q3fi, .inl (cI, 12, .inl fi)), (q3to, .inl (cI, 12, .inl to))] sz r0) 0 0 (va_A [(q3, .inr (3, [.ref q3fi, .ref q3to, .int th, .int he, .int ma, .int ro])), (q3fi, .inl (cI, 12, .inl fi)), (q3to, .inl (cI, 12, .inl to))] sz) := by
  refine kMi (own := RX3) (ty := .int) rfl (by decide) rfl ?_ (Nat.le_of_ble_eq_true rfl)
  intro p e s m args below meth c Q A CF hK hN hA hP hD hret ls hl
  have hS : va_S A s.heap s.heap [] := va_S.rf
  obtain ⟨hx, hb, hml, hown, hts⟩ := id CF
  have hl : lv_has ls 5 [(0, .ref q3), (1, .int v1)] := hl
  unfold m_X3_leastFirmBeside at hs
  refine lv_iconst (v := 0) hx hb dX3_leastFirmBeside_0 (by decide) ?_
  refine lv_istore_n (lv' := [(2, .int (0 : Int32)), (0, .ref q3), (1, .int v1)]) hx hb dX3_leastFirmBeside_1 rfl hl (by decide) rfl (fun ls hl => ?_)
  refine lv_bipush (v := 99) hx hb dX3_leastFirmBeside_2 (by decide) ?_
  refine lv_istore_n (lv' := [(3, .int (99 : Int32)), (2, .int (0 : Int32)), (0, .ref q3), (1, .int v1)]) hx hb dX3_leastFirmBeside_4 rfl hl (by decide) rfl (fun ls hl => ?_)
  refine lv_iconst (v := 0) hx hb dX3_leastFirmBeside_5 (by decide) ?_
  refine lv_istore (lv' := [(4, .int (0 : Int32)), (3, .int (99 : Int32)), (2, .int (0 : Int32)), (0, .ref q3), (1, .int v1)]) hx hb dX3_leastFirmBeside_6 hl (by decide) rfl (fun ls hl => ?_)
  have hL_8 : ∀ (n : Nat) (v2 : Int32) (v3 : Int32) (v4 : Int32) (H : Heap) (locs : List Loc) (ls : Array Slot), va_P (dC, dI) vwCl [(q3, .inr (3, [.ref q3fi, .ref q3to, .int th, .int he, .int ma, .int ro])), (q3fi, .inl (cI, 12, .inl fi)), (q3to, .inl (cI, 12, .inl to))] H → va_D A [(q3, .inr (3, [.ref q3fi, .ref q3to, .int th, .int he, .int ma, .int ro])), (q3fi, .inl (cI, 12, .inl fi)), (q3to, .inl (cI, 12, .inl to))] → va_S A s.heap H locs → lv_has ls 5 [(0, .ref q3), (1, .int v1), (2, .int v2), (3, .int v3), (4, .int v4)] → L_X3_leastFirmBeside_8 v1 fi n v2 v3 v4 = some r0 → W p l e rm_X3_leastFirmBeside s m args below meth c H locs 0 0 Q (F0 m 8 ls []) := by
    intro n
    induction n with
    | zero =>
      intro v2 v3 v4 H locs ls hP hD hS hl hs
      replace hs : (none : Option (Int32)) = some r0 := hs
      cases hs
    | succ n_8 ih_8 =>
      intro v2 v3 v4 H locs ls hP hD hS hl hs
      replace hs : b_X3_leastFirmBeside_8  (L_X3_leastFirmBeside_8 v1 fi n_8) v1 fi v2 v3 v4 = some r0 := hs
      unfold b_X3_leastFirmBeside_8 at hs
      refine lv_iload hx hb dX3_leastFirmBeside_8 (lv_at hl 4 rfl) ?_
      refine lv_bipush (v := 12) hx hb dX3_leastFirmBeside_10 (by decide) ?_
      refine lv_icmp_ge (tgt := 64) hx hb dX3_leastFirmBeside_12 (by decide) (fun c_1 => ?_) (fun c_1 => ?_)
      · replace hs := if_p c_1 hs
        refine lv_iload_n hx hb dX3_leastFirmBeside_64 rfl (lv_at hl 2 rfl) ?_
        cases hs
        exact hret _ _ _ _ hP hD hS (vp_nar_int _) dX3_leastFirmBeside_65
      · replace hs := if_n c_1 hs
        refine lv_aload_n hx hb dX3_leastFirmBeside_15 rfl (lv_at hl 0 rfl) ?_
        refine va_get (D := (dC, dI)) (ci := 3) (v := .ref q3fi) (C := RX3) (T := TX3) (N := 6) hx hb hts (fun w h => kg1 (iG_3 w h)) hown hK hP 0 rfl rfl 0 (by decide) (hts _ (kg1 mG_21)) (fun _ h9 => h9) rfl dX3_leastFirmBeside_16 ?_
        refine lv_iload hx hb dX3_leastFirmBeside_19 (lv_at hl 4 rfl) ?_
        obtain ⟨hg_2, hs⟩ := gd_e hs
        refine kald hx hb hK hP 1 0 rfl rfl (j := (Int32.toNatClampNeg v4)) rfl (inb_e hg_2) dX3_leastFirmBeside_21 ?_
        refine lv_if_le (tgt := 58) hx hb dX3_leastFirmBeside_22 (by decide) (fun c_3 => ?_) (fun c_3 => ?_)
        · replace hs := if_p c_3 hs
          refine lv_iinc (v := (v4 + 1)) (lv' := [(4, .int (v4 + 1)), (0, .ref q3), (1, .int v1), (2, .int v2), (3, .int v3)]) hx hb dX3_leastFirmBeside_58 hl (k := 4) rfl rfl (by decide) rfl (fun ls hl => ?_)
          refine lv_goto (tgt := 8) hx hb dX3_leastFirmBeside_61 (by decide) ?_
          exact ih_8 v2 v3 (v4 + 1) _ _ _ hP hD hS (lv_sub hl [1, 2, 3, 4, 0] rfl) hs
        · replace hs := if_n c_3 hs
          refine lv_aload_n hx hb dX3_leastFirmBeside_25 rfl (lv_at hl 0 rfl) ?_
          refine va_get (D := (dC, dI)) (ci := 3) (v := .ref q3fi) (C := RX3) (T := TX3) (N := 6) hx hb hts (fun w h => kg1 (iG_3 w h)) hown hK hP 0 rfl rfl 0 (by decide) (hts _ (kg1 mG_21)) (fun _ h9 => h9) rfl dX3_leastFirmBeside_26 ?_
          refine lv_iload hx hb dX3_leastFirmBeside_29 (lv_at hl 4 rfl) ?_
          refine kald hx hb hK hP 1 0 rfl rfl (j := (Int32.toNatClampNeg v4)) rfl (inb_e hg_2) dX3_leastFirmBeside_31 ?_
          refine lv_iload_n hx hb dX3_leastFirmBeside_32 rfl (lv_at hl 3 rfl) ?_
          refine lv_icmp_ge (tgt := 58) hx hb dX3_leastFirmBeside_33 (by decide) (fun c_4 => ?_) (fun c_4 => ?_)
          · replace hs := if_p c_4 hs
            refine lv_iinc (v := (v4 + 1)) (lv' := [(4, .int (v4 + 1)), (0, .ref q3), (1, .int v1), (2, .int v2), (3, .int v3)]) hx hb dX3_leastFirmBeside_58 hl (k := 4) rfl rfl (by decide) rfl (fun ls hl => ?_)
            refine lv_goto (tgt := 8) hx hb dX3_leastFirmBeside_61 (by decide) ?_
            exact ih_8 v2 v3 (v4 + 1) _ _ _ hP hD hS (lv_sub hl [1, 2, 3, 4, 0] rfl) hs
          · replace hs := if_n c_4 hs
            refine lv_iload_n hx hb dX3_leastFirmBeside_36 rfl (lv_at hl 1 rfl) ?_
            refine lv_iload hx hb dX3_leastFirmBeside_37 (lv_at hl 4 rfl) ?_
            refine lv_ishr hx hb dX3_leastFirmBeside_39 ?_
            refine lv_iconst (v := 1) hx hb dX3_leastFirmBeside_40 (by decide) ?_
            refine lv_iand hx hb dX3_leastFirmBeside_41 ?_
            refine lv_if_ne (tgt := 58) hx hb dX3_leastFirmBeside_42 (by decide) (fun c_5 => ?_) (fun c_5 => ?_)
            · replace hs := if_n c_5 hs
              refine lv_iinc (v := (v4 + 1)) (lv' := [(4, .int (v4 + 1)), (0, .ref q3), (1, .int v1), (2, .int v2), (3, .int v3)]) hx hb dX3_leastFirmBeside_58 hl (k := 4) rfl rfl (by decide) rfl (fun ls hl => ?_)
              refine lv_goto (tgt := 8) hx hb dX3_leastFirmBeside_61 (by decide) ?_
              exact ih_8 v2 v3 (v4 + 1) _ _ _ hP hD hS (lv_sub hl [1, 2, 3, 4, 0] rfl) hs
            · replace hs := if_p c_5 hs
              refine lv_iconst (v := 1) hx hb dX3_leastFirmBeside_45 (by decide) ?_
              refine lv_iload hx hb dX3_leastFirmBeside_46 (lv_at hl 4 rfl) ?_
              refine lv_ishl hx hb dX3_leastFirmBeside_48 ?_
              refine lv_istore_n (lv' := [(2, .int ((1 : Int32) <<< (v4 &&& 31))), (0, .ref q3), (1, .int v1), (3, .int v3), (4, .int v4)]) hx hb dX3_leastFirmBeside_49 rfl hl (by decide) rfl (fun ls hl => ?_)
              refine lv_aload_n hx hb dX3_leastFirmBeside_50 rfl (lv_at hl 1 rfl) ?_
              refine va_get (D := (dC, dI)) (ci := 3) (v := .ref q3fi) (C := RX3) (T := TX3) (N := 6) hx hb hts (fun w h => kg1 (iG_3 w h)) hown hK hP 0 rfl rfl 0 (by decide) (hts _ (kg1 mG_21)) (fun _ h9 => h9) rfl dX3_leastFirmBeside_51 ?_
              refine lv_iload hx hb dX3_leastFirmBeside_54 (lv_at hl 4 rfl) ?_
              refine kald hx hb hK hP 1 0 rfl rfl (j := (Int32.toNatClampNeg v4)) rfl (inb_e hg_2) dX3_leastFirmBeside_56 ?_
              refine lv_istore_n (lv' := [(3, .int (fi (Int32.toNatClampNeg v4))), (2, .int ((1 : Int32) <<< (v4 &&& 31))), (0, .ref q3), (1, .int v1), (4, .int v4)]) hx hb dX3_leastFirmBeside_57 rfl hl (by decide) rfl (fun ls hl => ?_)
              refine lv_iinc (v := (v4 + 1)) (lv' := [(4, .int (v4 + 1)), (3, .int (fi (Int32.toNatClampNeg v4))), (2, .int ((1 : Int32) <<< (v4 &&& 31))), (0, .ref q3), (1, .int v1)]) hx hb dX3_leastFirmBeside_58 hl (k := 4) rfl rfl (by decide) rfl (fun ls hl => ?_)
              refine lv_goto (tgt := 8) hx hb dX3_leastFirmBeside_61 (by decide) ?_
              exact ih_8 ((1 : Int32) <<< (v4 &&& 31)) (fi (Int32.toNatClampNeg v4)) (v4 + 1) _ _ _ hP hD hS (lv_sub hl [3, 4, 2, 1, 0] rfl) hs
  exact hL_8 fu (0 : Int32) (99 : Int32) (0 : Int32) _ _ _ hP hD hS (lv_sub hl [3, 4, 2, 1, 0] rfl) hs
abbrev rm_X3_mend : Room := { frames := 1, cells := 0, slots := 0, locals := 24 }
theorem hd_X3_mend : yX3_mend.cls ≠ "java/lang/invoke/MethodHandle" ∧ yX3_mend.cls ≠ "java/lang/invoke/VarHandle" ∧ (parseMethodDescriptor yX3_mend.desc).map (fun d => d.parameters.length) = some 0 := by decide +kernel
set_option maxHeartbeats 4000000 in
set_option maxRecDepth 100000 in
theorem k_X3_mend (l : Launch) (dC : Nat → ClassId) (dI : Nat → Nat → Nat) (cI cZ cS : ClassId) (q3 q3fi q3to : Nat) (sz : Nat) (th : Int32) (he : Int32) (ma : Int32) (ro : Int32) (fi : Ar) (to : Ar)  (fi_o : Ar) (hs : m_X3_mend ma fi = some fi_o) : Met l yX3_mend (.code yX3_mend cX3_mend 3 none :: kG) rm_X3_mend (va_Pc [.ref q3] (kW (dC, dI) cI cZ cS [(q3, .inr (3, [.ref q3fi, .ref q3to, .int th, .int he, .int ma, .int ro])), (q3fi, .inl (cI, 12, .inl fi)), (q3to, .inl (cI, 12, .inl to))] sz)) (kQv (dC, dI) [(q3, .inr (3, [.ref q3fi, .ref q3to, .int th, .int he, .int ma, .int ro])), (q3fi, .inl (cI, 12, .inl fi)), (q3to, .inl (cI, 12, .inl to))] [(q3, .inr (3, [.ref q3fi, .ref q3to, .int th, .int he, .int ma, .int ro])), (q3fi, .inl (cI, 12, .inl fi_o)), (q3to, .inl (cI, 12, .inl to))] sz) 0 0 (va_A [(q3, .inr (3, [.ref q3fi, .ref q3to, .int th, .int he, .int ma, .int ro])), (q3fi, .inl (cI, 12, .inl fi)), (q3to, .inl (cI, 12, .inl to))] sz) := by
  refine kMv (own := RX3) (by decide) rfl ?_ (Nat.le_of_ble_eq_true rfl)
  intro p e s m args below meth c Q A CF hK hN hA hP hD hret ls hl
  have hS : va_S A s.heap s.heap [] := va_S.rf
  obtain ⟨hx, hb, hml, hown, hts⟩ := id CF
  have hl : lv_has ls 3 [(0, .ref q3)] := hl
  unfold m_X3_mend at hs
  refine lv_iconst (v := 0) hx hb dX3_mend_0 (by decide) ?_
  refine lv_istore_n (lv' := [(1, .int (0 : Int32)), (0, .ref q3)]) hx hb dX3_mend_1 rfl hl (by decide) rfl (fun ls hl => ?_)
  refine lv_iconst (v := 0) hx hb dX3_mend_2 (by decide) ?_
  refine lv_istore_n (lv' := [(2, .int (0 : Int32)), (1, .int (0 : Int32)), (0, .ref q3)]) hx hb dX3_mend_3 rfl hl (by decide) rfl (fun ls hl => ?_)
  have hL_4 : ∀ (n : Nat) (v1 : Int32) (v2 : Int32) (fi : Ar) (H : Heap) (locs : List Loc) (ls : Array Slot), va_P (dC, dI) vwCl [(q3, .inr (3, [.ref q3fi, .ref q3to, .int th, .int he, .int ma, .int ro])), (q3fi, .inl (cI, 12, .inl fi)), (q3to, .inl (cI, 12, .inl to))] H → va_D A [(q3, .inr (3, [.ref q3fi, .ref q3to, .int th, .int he, .int ma, .int ro])), (q3fi, .inl (cI, 12, .inl fi)), (q3to, .inl (cI, 12, .inl to))] → va_S A s.heap H locs → lv_has ls 3 [(0, .ref q3), (1, .int v1), (2, .int v2)] → L_X3_mend_4 ma fi n v1 v2 = some fi_o → W p l e rm_X3_mend s m args below meth c H locs 0 0 Q (F0 m 4 ls []) := by
    intro n
    induction n with
    | zero =>
      intro v1 v2 fi H locs ls hP hD hS hl hs
      replace hs : (none : Option (Ar)) = some fi_o := hs
      cases hs
    | succ n_4 ih_4 =>
      intro v1 v2 fi H locs ls hP hD hS hl hs
      replace hs : b_X3_mend_4  (L_X3_mend_4 ma fi n_4) ma fi v1 v2 = some fi_o := hs
      unfold b_X3_mend_4 at hs
      refine lv_iload_n hx hb dX3_mend_4 rfl (lv_at hl 2 rfl) ?_
      refine lv_aload_n hx hb dX3_mend_5 rfl (lv_at hl 0 rfl) ?_
      refine va_get (D := (dC, dI)) (ci := 3) (v := .int ma) (C := RX3) (T := TX3) (N := 6) hx hb hts (fun w h => kg1 (iG_3 w h)) hown hK hP 0 rfl rfl 4 (by decide) (hts _ (kg1 mG_44)) (fun _ h9 => h9) rfl dX3_mend_6 ?_
      refine lv_icmp_ge (tgt := 26) hx hb dX3_mend_9 (by decide) (fun c_1 => ?_) (fun c_1 => ?_)
      · replace hs := if_p c_1 hs
        refine lv_iconst (v := 0) hx hb dX3_mend_26 (by decide) ?_
        refine lv_istore_n (lv' := [(2, .int (0 : Int32)), (0, .ref q3), (1, .int v1)]) hx hb dX3_mend_27 rfl hl (by decide) rfl (fun ls hl => ?_)
        have hL_28 : ∀ (n : Nat) (v1 : Int32) (v2 : Int32) (fi : Ar) (H : Heap) (locs : List Loc) (ls : Array Slot), va_P (dC, dI) vwCl [(q3, .inr (3, [.ref q3fi, .ref q3to, .int th, .int he, .int ma, .int ro])), (q3fi, .inl (cI, 12, .inl fi)), (q3to, .inl (cI, 12, .inl to))] H → va_D A [(q3, .inr (3, [.ref q3fi, .ref q3to, .int th, .int he, .int ma, .int ro])), (q3fi, .inl (cI, 12, .inl fi)), (q3to, .inl (cI, 12, .inl to))] → va_S A s.heap H locs → lv_has ls 3 [(0, .ref q3), (1, .int v1), (2, .int v2)] → L_X3_mend_28 v1 n v2 fi = some fi_o → W p l e rm_X3_mend s m args below meth c H locs 0 0 Q (F0 m 28 ls []) := by
          intro n
          induction n with
          | zero =>
            intro v1 v2 fi H locs ls hP hD hS hl hs
            replace hs : (none : Option (Ar)) = some fi_o := hs
            cases hs
          | succ n_28 ih_28 =>
            intro v1 v2 fi H locs ls hP hD hS hl hs
            replace hs : b_X3_mend_28  (L_X3_mend_28 v1 n_28) v1 v2 fi = some fi_o := hs
            unfold b_X3_mend_28 at hs
            refine lv_iload_n hx hb dX3_mend_28 rfl (lv_at hl 2 rfl) ?_
            refine lv_bipush (v := 12) hx hb dX3_mend_29 (by decide) ?_
            refine lv_icmp_ge (tgt := 54) hx hb dX3_mend_31 (by decide) (fun c_4 => ?_) (fun c_4 => ?_)
            · replace hs := if_p c_4 hs
              cases hs
              exact hret _ _ _ _ hP hD hS dX3_mend_54
            · replace hs := if_n c_4 hs
              refine lv_aload_n hx hb dX3_mend_34 rfl (lv_at hl 0 rfl) ?_
              refine va_get (D := (dC, dI)) (ci := 3) (v := .ref q3fi) (C := RX3) (T := TX3) (N := 6) hx hb hts (fun w h => kg1 (iG_3 w h)) hown hK hP 0 rfl rfl 0 (by decide) (hts _ (kg1 mG_21)) (fun _ h9 => h9) rfl dX3_mend_35 ?_
              refine lv_iload_n hx hb dX3_mend_38 rfl (lv_at hl 2 rfl) ?_
              refine lv_dup2_11 hx hb dX3_mend_39 rfl rfl ?_
              obtain ⟨hg_5, hs⟩ := gd_e hs
              refine kald hx hb hK hP 1 0 rfl rfl (j := (Int32.toNatClampNeg v2)) rfl (inb_e hg_5) dX3_mend_40 ?_
              refine lv_iload_n hx hb dX3_mend_41 rfl (lv_at hl 1 rfl) ?_
              refine lv_iload_n hx hb dX3_mend_42 rfl (lv_at hl 2 rfl) ?_
              refine lv_ishr hx hb dX3_mend_43 ?_
              refine lv_iconst (v := 1) hx hb dX3_mend_44 (by decide) ?_
              refine lv_iand hx hb dX3_mend_45 ?_
              refine lv_iadd hx hb dX3_mend_46 ?_
              refine lv_topi (fun w_6 ew_6 => ?_)
              replace hs := bnd_e ew_6 hs
              refine kast hx hb hK hP hD hS 1 0 rfl rfl (j := (Int32.toNatClampNeg v2)) rfl (inb_e hg_5) dX3_mend_47 (fun H locs hP hD hS => ?_)
              have hP : va_P (dC, dI) vwCl [(q3, .inr (3, [.ref q3fi, .ref q3to, .int th, .int he, .int ma, .int ro])), (q3fi, .inl (cI, 12, .inl (upd fi (Int32.toNatClampNeg v2) w_6))), (q3to, .inl (cI, 12, .inl to))] H := hP
              have hD : va_D A [(q3, .inr (3, [.ref q3fi, .ref q3to, .int th, .int he, .int ma, .int ro])), (q3fi, .inl (cI, 12, .inl (upd fi (Int32.toNatClampNeg v2) w_6))), (q3to, .inl (cI, 12, .inl to))] := hD
              refine lv_iinc (v := (v2 + 1)) (lv' := [(2, .int (v2 + 1)), (0, .ref q3), (1, .int v1)]) hx hb dX3_mend_48 hl (k := 2) rfl rfl (by decide) rfl (fun ls hl => ?_)
              refine lv_goto (tgt := 28) hx hb dX3_mend_51 (by decide) ?_
              exact ih_28 v1 (v2 + 1) (upd fi (Int32.toNatClampNeg v2) w_6) _ _ _ hP hD hS (lv_sub hl [1, 2, 0] rfl) hs
        exact hL_28 fu v1 (0 : Int32) fi _ _ _ hP hD hS (lv_sub hl [1, 2, 0] rfl) hs
      · replace hs := if_n c_1 hs
        refine lv_iload_n hx hb dX3_mend_12 rfl (lv_at hl 1 rfl) ?_
        refine lv_aload_n hx hb dX3_mend_13 rfl (lv_at hl 0 rfl) ?_
        refine lv_iload_n hx hb dX3_mend_14 rfl (lv_at hl 1 rfl) ?_
        obtain ⟨r_2, hc_3, hs⟩ := ob1_e hs
        refine kci (wr := []) (ws' := [(q3, .inr (3, [.ref q3fi, .ref q3to, .int th, .int he, .int ma, .int ro])), (q3fi, .inl (cI, 12, .inl fi)), (q3to, .inl (cI, 12, .inl to))]) (va_runV (As := [.int v1]) (rest := [.int v1]) ⟨hx, hb, hml, hown, hts⟩ (k_X3_leastFirmBeside l dC dI cI cZ cS q3 q3fi q3to H.size th he ma ro fi to v1 r_2 hc_3) (cwV 1 hts (kGood (kgV mG_94 mG_95 mG_96 mG_30 mG_92)) rfl rfl rfl ⟨rfl, hd_X3_leastFirmBeside⟩ ⟨Nat.le_of_ble_eq_true rfl, Nat.le_of_ble_eq_true rfl⟩) (kpV hK hN (hP.sub (ws' := [(q3, .inr (3, [.ref q3fi, .ref q3to, .int th, .int he, .int ma, .int ro])), (q3fi, .inl (cI, 12, .inl fi)), (q3to, .inl (cI, 12, .inl to))]) [0, 1, 2] rfl) (hD.sub (ws' := [(q3, .inr (3, [.ref q3fi, .ref q3to, .int th, .int he, .int ma, .int ro])), (q3fi, .inl (cI, 12, .inl fi)), (q3to, .inl (cI, 12, .inl to))]) [0, 1, 2] rfl rfl) rfl rfl rfl) rfl rfl hl.1 rfl (lv_room (Nat.le_of_ble_eq_true rfl)) dX3_mend_15 ⟨Nat.zero_le _, Nat.zero_le _⟩) hP hD hS hA [0, 1, 2] [] [0, 1, 2] rfl rfl rfl (by decide) rfl rfl (fun H locs hP hD hS => ?_)
        refine lv_ior hx hb dX3_mend_18 ?_
        refine lv_istore_n (lv' := [(1, .int (v1 ||| r_2)), (0, .ref q3), (2, .int v2)]) hx hb dX3_mend_19 rfl hl (by decide) rfl (fun ls hl => ?_)
        refine lv_iinc (v := (v2 + 1)) (lv' := [(2, .int (v2 + 1)), (1, .int (v1 ||| r_2)), (0, .ref q3)]) hx hb dX3_mend_20 hl (k := 2) rfl rfl (by decide) rfl (fun ls hl => ?_)
        refine lv_goto (tgt := 4) hx hb dX3_mend_23 (by decide) ?_
        exact ih_4 (v1 ||| r_2) (v2 + 1) fi _ _ _ hP hD hS (lv_sub hl [2, 1, 0] rfl) hs
  exact hL_4 fu (0 : Int32) (0 : Int32) fi _ _ _ hP hD hS (lv_sub hl [2, 1, 0] rfl) hs
abbrev rm_X3_act : Room := { frames := 3, cells := 0, slots := 0, locals := 64 }
theorem hd_X3_act : yX3_act.cls ≠ "java/lang/invoke/MethodHandle" ∧ yX3_act.cls ≠ "java/lang/invoke/VarHandle" ∧ (parseMethodDescriptor yX3_act.desc).map (fun d => d.parameters.length) = some 2 := by decide +kernel
set_option maxHeartbeats 4000000 in
set_option maxRecDepth 100000 in
theorem k_X3_act (l : Launch) (dC : Nat → ClassId) (dI : Nat → Nat → Nat) (cI cZ cS : ClassId) (q3 q3fi q3to : Nat) (sz : Nat) (th : Int32) (he : Int32) (ma : Int32) (ro : Int32) (fi : Ar) (to : Ar) (v1 : Int32) (v2 : Int32) (he_o : Int32) (ro_o : Int32) (fi_o : Ar) (hs : m_X3_act v1 v2 th he ma ro fi to = some (he_o, ro_o, fi_o)) : Met l yX3_act (.code yX3_act cX3_act 3 none :: kG) rm_X3_act (va_Pc [.ref q3, .int v1, .int v2] (kW (dC, dI) cI cZ cS [(q3, .inr (3, [.ref q3fi, .ref q3to, .int th, .int he, .int ma, .int ro])), (q3fi, .inl (cI, 12, .inl fi)), (q3to, .inl (cI, 12, .inl to))] sz)) (kQv (dC, dI) [(q3, .inr (3, [.ref q3fi, .ref q3to, .int th, .int he, .int ma, .int ro])), (q3fi, .inl (cI, 12, .inl fi)), (q3to, .inl (cI, 12, .inl to))] [(q3, .inr (3, [.ref q3fi, .ref q3to, .int th, .int he_o, .int ma, .int ro_o])), (q3fi, .inl (cI, 12, .inl fi_o)), (q3to, .inl (cI, 12, .inl to))] sz) 0 0 (va_A [(q3, .inr (3, [.ref q3fi, .ref q3to, .int th, .int he, .int ma, .int ro])), (q3fi, .inl (cI, 12, .inl fi)), (q3to, .inl (cI, 12, .inl to))] sz) := by
  refine kMv (own := RX3) (by decide) rfl ?_ (Nat.le_of_ble_eq_true rfl)
  intro p e s m args below meth c Q A CF hK hN hA hP hD hret ls hl
  have hS : va_S A s.heap s.heap [] := va_S.rf
  obtain ⟨hx, hb, hml, hown, hts⟩ := id CF
  have hl : lv_has ls 3 [(0, .ref q3), (1, .int v1), (2, .int v2)] := hl
  unfold m_X3_act at hs
  refine lv_iload_n hx hb dX3_act_0 rfl (lv_at hl 1 rfl) ?_
  by_cases c_1 : v1 = (33 : Int32)
  · replace hs := if_p c_1 hs
    refine lv_lookup (off := 81) (tgt := 82) hx hb dX3_act_1 (by decide) (by rw [c_1]; decide) (by decide) ?_
    refine lv_aload_n hx hb dX3_act_82 rfl (lv_at hl 0 rfl) ?_
    obtain ⟨he_2, fi_3, hc_4, hs⟩ := ob2_e hs
    refine kcv (wr := []) (ws' := [(q3, .inr (3, [.ref q3fi, .ref q3to, .int th, .int he_2, .int ma, .int ro])), (q3fi, .inl (cI, 12, .inl fi_3)), (q3to, .inl (cI, 12, .inl to))]) (va_runV (As := []) (rest := []) ⟨hx, hb, hml, hown, hts⟩ (k_X3_letOut l dC dI cI cZ cS q3 q3fi q3to s.heap.size th he ma ro fi to he_2 fi_3 hc_4) (cwV 0 hts (kGood (kgV mG_103 mG_104 mG_105 mG_30 mG_91)) rfl rfl rfl ⟨rfl, hd_X3_letOut⟩ ⟨Nat.le_of_ble_eq_true rfl, Nat.le_of_ble_eq_true rfl⟩) (kpV hK hN (hP.sub (ws' := [(q3, .inr (3, [.ref q3fi, .ref q3to, .int th, .int he, .int ma, .int ro])), (q3fi, .inl (cI, 12, .inl fi)), (q3to, .inl (cI, 12, .inl to))]) [0, 1, 2] rfl) (hD.sub (ws' := [(q3, .inr (3, [.ref q3fi, .ref q3to, .int th, .int he, .int ma, .int ro])), (q3fi, .inl (cI, 12, .inl fi)), (q3to, .inl (cI, 12, .inl to))]) [0, 1, 2] rfl rfl) rfl rfl rfl) rfl rfl hl.1 rfl (lv_room (Nat.le_of_ble_eq_true rfl)) dX3_act_83 ⟨Nat.zero_le _, Nat.zero_le _⟩) hP hD hS hA [0, 1, 2] [] [0, 1, 2] rfl rfl rfl (by decide) rfl rfl (fun H locs hP hD hS => ?_)
    refine lv_goto (tgt := 93) hx hb dX3_act_86 (by decide) ?_
    cases hs
    exact hret _ _ _ _ hP hD hS dX3_act_93
  replace hs := if_n c_1 hs
  by_cases c_5 : v1 = (46 : Int32)
  · replace hs := if_p c_5 hs
    refine lv_lookup (off := 35) (tgt := 36) hx hb dX3_act_1 (by decide) (by rw [c_5]; decide) (by decide) ?_
    refine lv_aload_n hx hb dX3_act_36 rfl (lv_at hl 0 rfl) ?_
    refine lv_bipush (v := 99) hx hb dX3_act_37 (by decide) ?_
    refine lv_aload_n hx hb dX3_act_39 rfl (lv_at hl 0 rfl) ?_
    refine va_get (D := (dC, dI)) (ci := 3) (v := .int he) (C := RX3) (T := TX3) (N := 6) hx hb hts (fun w h => kg1 (iG_3 w h)) hown hK hP 0 rfl rfl 3 (by decide) (hts _ (kg1 mG_43)) (fun _ h9 => h9) rfl dX3_act_40 ?_
    refine lv_iconst (v := 1) hx hb dX3_act_43 (by decide) ?_
    refine lv_iadd hx hb dX3_act_44 ?_
    refine va_mmin hx hb (by rw [hml]; exact hl.1.symm) hown (hts _ (kg1 mG_97)) (hts _ (kg1 mG_98)) (hts _ (kg1 mG_85)) (hts _ (kg1 mG_99)) (Nat.le_of_ble_eq_true rfl) (Nat.le_of_ble_eq_true rfl) (Nat.zero_le _) (Nat.zero_le _) dX3_act_45 ?_
    refine va_put (D := (dC, dI)) (ci := 3) (v := .int (imin (99 : Int32) (he + (1 : Int32)))) (ty := .int) (C := RX3) (T := TX3) (N := 6) hx hb hts (fun w h => kg1 (iG_3 w h)) tyX3 tyX3_ok nmX3 hown hK hP hD hS 0 rfl rfl 3 (by decide) (hts _ (kg1 mG_43)) (fun _ h9 => h9) rfl rfl rfl rfl (Nat.le_of_ble_eq_true rfl) dX3_act_48 (fun H locs hP hD hS => ?_)
    have hP : va_P (dC, dI) vwCl [(q3, .inr (3, [.ref q3fi, .ref q3to, .int th, .int (imin (99 : Int32) (he + (1 : Int32))), .int ma, .int ro])), (q3fi, .inl (cI, 12, .inl fi)), (q3to, .inl (cI, 12, .inl to))] H := hP
    have hD : va_D A [(q3, .inr (3, [.ref q3fi, .ref q3to, .int th, .int (imin (99 : Int32) (he + (1 : Int32))), .int ma, .int ro])), (q3fi, .inl (cI, 12, .inl fi)), (q3to, .inl (cI, 12, .inl to))] := hD
    refine lv_aload_n hx hb dX3_act_51 rfl (lv_at hl 0 rfl) ?_
    refine lv_dup hx hb dX3_act_52 rfl ?_
    refine va_get (D := (dC, dI)) (ci := 3) (v := .int ro) (C := RX3) (T := TX3) (N := 6) hx hb hts (fun w h => kg1 (iG_3 w h)) hown hK hP 0 rfl rfl 5 (by decide) (hts _ (kg1 mG_45)) (fun _ h9 => h9) rfl dX3_act_53 ?_
    refine lv_iconst (v := 1) hx hb dX3_act_56 (by decide) ?_
    refine lv_iadd hx hb dX3_act_57 ?_
    refine va_put (D := (dC, dI)) (ci := 3) (v := .int (ro + (1 : Int32))) (ty := .int) (C := RX3) (T := TX3) (N := 6) hx hb hts (fun w h => kg1 (iG_3 w h)) tyX3 tyX3_ok nmX3 hown hK hP hD hS 0 rfl rfl 5 (by decide) (hts _ (kg1 mG_45)) (fun _ h9 => h9) rfl rfl rfl rfl (Nat.le_of_ble_eq_true rfl) dX3_act_58 (fun H locs hP hD hS => ?_)
    have hP : va_P (dC, dI) vwCl [(q3, .inr (3, [.ref q3fi, .ref q3to, .int th, .int (imin (99 : Int32) (he + (1 : Int32))), .int ma, .int (ro + (1 : Int32))])), (q3fi, .inl (cI, 12, .inl fi)), (q3to, .inl (cI, 12, .inl to))] H := hP
    have hD : va_D A [(q3, .inr (3, [.ref q3fi, .ref q3to, .int th, .int (imin (99 : Int32) (he + (1 : Int32))), .int ma, .int (ro + (1 : Int32))])), (q3fi, .inl (cI, 12, .inl fi)), (q3to, .inl (cI, 12, .inl to))] := hD
    refine lv_goto (tgt := 93) hx hb dX3_act_61 (by decide) ?_
    cases hs
    exact hret _ _ _ _ hP hD hS dX3_act_93
  replace hs := if_n c_5 hs
  by_cases c_6 : v1 = (104 : Int32)
  · replace hs := if_p c_6 hs
    refine lv_lookup (off := 63) (tgt := 64) hx hb dX3_act_1 (by decide) (by rw [c_6]; decide) (by decide) ?_
    refine lv_aload_n hx hb dX3_act_64 rfl (lv_at hl 0 rfl) ?_
    refine lv_iload_n hx hb dX3_act_65 rfl (lv_at hl 2 rfl) ?_
    obtain ⟨fi_7, hc_8, hs⟩ := ob1_e hs
    refine kcv (wr := []) (ws' := [(q3, .inr (3, [.ref q3fi, .ref q3to, .int th, .int he, .int ma, .int ro])), (q3fi, .inl (cI, 12, .inl fi_7)), (q3to, .inl (cI, 12, .inl to))]) (va_runV (As := [.int v2]) (rest := []) ⟨hx, hb, hml, hown, hts⟩ (k_X3_blow l dC dI cI cZ cS q3 q3fi q3to s.heap.size th he ma ro fi to v2 fi_7 hc_8) (cwV 1 hts (kGood (kgV mG_100 mG_101 mG_102 mG_30 mG_82)) rfl rfl rfl ⟨rfl, hd_X3_blow⟩ ⟨Nat.le_of_ble_eq_true rfl, Nat.le_of_ble_eq_true rfl⟩) (kpV hK hN (hP.sub (ws' := [(q3, .inr (3, [.ref q3fi, .ref q3to, .int th, .int he, .int ma, .int ro])), (q3fi, .inl (cI, 12, .inl fi)), (q3to, .inl (cI, 12, .inl to))]) [0, 1, 2] rfl) (hD.sub (ws' := [(q3, .inr (3, [.ref q3fi, .ref q3to, .int th, .int he, .int ma, .int ro])), (q3fi, .inl (cI, 12, .inl fi)), (q3to, .inl (cI, 12, .inl to))]) [0, 1, 2] rfl rfl) rfl rfl rfl) rfl rfl hl.1 rfl (lv_room (Nat.le_of_ble_eq_true rfl)) dX3_act_66 ⟨Nat.zero_le _, Nat.zero_le _⟩) hP hD hS hA [0, 1, 2] [] [0, 1, 2] rfl rfl rfl (by decide) rfl rfl (fun H locs hP hD hS => ?_)
    refine lv_aload_n hx hb dX3_act_69 rfl (lv_at hl 0 rfl) ?_
    refine lv_dup hx hb dX3_act_70 rfl ?_
    refine va_get (D := (dC, dI)) (ci := 3) (v := .int ro) (C := RX3) (T := TX3) (N := 6) hx hb hts (fun w h => kg1 (iG_3 w h)) hown hK hP 0 rfl rfl 5 (by decide) (hts _ (kg1 mG_45)) (fun _ h9 => h9) rfl dX3_act_71 ?_
    refine lv_iconst (v := 1) hx hb dX3_act_74 (by decide) ?_
    refine lv_iadd hx hb dX3_act_75 ?_
    refine va_put (D := (dC, dI)) (ci := 3) (v := .int (ro + (1 : Int32))) (ty := .int) (C := RX3) (T := TX3) (N := 6) hx hb hts (fun w h => kg1 (iG_3 w h)) tyX3 tyX3_ok nmX3 hown hK hP hD hS 0 rfl rfl 5 (by decide) (hts _ (kg1 mG_45)) (fun _ h9 => h9) rfl rfl rfl rfl (Nat.le_of_ble_eq_true rfl) dX3_act_76 (fun H locs hP hD hS => ?_)
    have hP : va_P (dC, dI) vwCl [(q3, .inr (3, [.ref q3fi, .ref q3to, .int th, .int he, .int ma, .int (ro + (1 : Int32))])), (q3fi, .inl (cI, 12, .inl fi_7)), (q3to, .inl (cI, 12, .inl to))] H := hP
    have hD : va_D A [(q3, .inr (3, [.ref q3fi, .ref q3to, .int th, .int he, .int ma, .int (ro + (1 : Int32))])), (q3fi, .inl (cI, 12, .inl fi_7)), (q3to, .inl (cI, 12, .inl to))] := hD
    refine lv_goto (tgt := 93) hx hb dX3_act_79 (by decide) ?_
    cases hs
    exact hret _ _ _ _ hP hD hS dX3_act_93
  replace hs := if_n c_6 hs
  refine lv_lookup (off := 88) (tgt := 89) hx hb dX3_act_1 (by decide) (show Op.lookupswitch.offset [(33, 81), (46, 35), (104, 63)] 88 (Int32.toInt v1) = 88 from by rw [lv_osw c_1 (by decide), lv_osw c_5 (by decide), lv_osw c_6 (by decide)]; rfl) (by decide) ?_
  refine lv_aload_n hx hb dX3_act_89 rfl (lv_at hl 0 rfl) ?_
  obtain ⟨fi_9, hc_10, hs⟩ := ob1_e hs
  refine kcv (wr := []) (ws' := [(q3, .inr (3, [.ref q3fi, .ref q3to, .int th, .int he, .int ma, .int ro])), (q3fi, .inl (cI, 12, .inl fi_9)), (q3to, .inl (cI, 12, .inl to))]) (va_runV (As := []) (rest := []) ⟨hx, hb, hml, hown, hts⟩ (k_X3_mend l dC dI cI cZ cS q3 q3fi q3to s.heap.size th he ma ro fi to fi_9 hc_10) (cwV 0 hts (kGood (kgV mG_106 mG_107 mG_108 mG_30 mG_93)) rfl rfl rfl ⟨rfl, hd_X3_mend⟩ ⟨Nat.le_of_ble_eq_true rfl, Nat.le_of_ble_eq_true rfl⟩) (kpV hK hN (hP.sub (ws' := [(q3, .inr (3, [.ref q3fi, .ref q3to, .int th, .int he, .int ma, .int ro])), (q3fi, .inl (cI, 12, .inl fi)), (q3to, .inl (cI, 12, .inl to))]) [0, 1, 2] rfl) (hD.sub (ws' := [(q3, .inr (3, [.ref q3fi, .ref q3to, .int th, .int he, .int ma, .int ro])), (q3fi, .inl (cI, 12, .inl fi)), (q3to, .inl (cI, 12, .inl to))]) [0, 1, 2] rfl rfl) rfl rfl rfl) rfl rfl hl.1 rfl (lv_room (Nat.le_of_ble_eq_true rfl)) dX3_act_90 ⟨Nat.zero_le _, Nat.zero_le _⟩) hP hD hS hA [0, 1, 2] [] [0, 1, 2] rfl rfl rfl (by decide) rfl rfl (fun H locs hP hD hS => ?_)
  cases hs
  exact hret _ _ _ _ hP hD hS dX3_act_93
abbrev rm_X3_replaceHeld : Room := { frames := 0, cells := 0, slots := 0, locals := 0 }
theorem hd_X3_replaceHeld : yX3_replaceHeld.cls ≠ "java/lang/invoke/MethodHandle" ∧ yX3_replaceHeld.cls ≠ "java/lang/invoke/VarHandle" ∧ (parseMethodDescriptor yX3_replaceHeld.desc).map (fun d => d.parameters.length) = some 1 := by decide +kernel
set_option maxHeartbeats 4000000 in
set_option maxRecDepth 100000 in
theorem k_X3_replaceHeld (l : Launch) (dC : Nat → ClassId) (dI : Nat → Nat → Nat) (cI cZ cS : ClassId) (q3 q3fi q3to : Nat) (sz : Nat) (th : Int32) (he : Int32) (ma : Int32) (ro : Int32) (fi : Ar) (to : Ar) (v1 : Int32) (r0 : Int32) (he_o : Int32) (hs : m_X3_replaceHeld v1 he = some (r0, he_o)) : Met l yX3_replaceHeld (.code yX3_replaceHeld cX3_replaceHeld 3 (some .int) :: kG) rm_X3_replaceHeld (va_Pc [.ref q3, .int v1] (kW (dC, dI) cI cZ cS [(q3, .inr (3, [.ref q3fi, .ref q3to, .int th, .int he, .int ma, .int ro])), (q3fi, .inl (cI, 12, .inl fi)), (q3to, .inl (cI, 12, .inl to))] sz)) (kQi (dC, dI) [(q3, .inr (3, [.ref q3fi, .ref q3to, .int th, .int he, .int ma, .int ro])), (q3fi, .inl (cI, 12, .inl fi)), (q3to, .inl (cI, 12, .inl to))] [(q3, .inr (3, [.ref q3fi, .ref q3to, .int th, .int he_o, .int ma, .int ro])), (q3fi, .inl (cI, 12, .inl fi)), (q3to, .inl (cI, 12, .inl to))] sz r0) 0 0 (va_A [(q3, .inr (3, [.ref q3fi, .ref q3to, .int th, .int he, .int ma, .int ro])), (q3fi, .inl (cI, 12, .inl fi)), (q3to, .inl (cI, 12, .inl to))] sz) := by
  refine kMi (own := RX3) (ty := .int) rfl (by decide) rfl ?_ (Nat.le_of_ble_eq_true rfl)
  intro p e s m args below meth c Q A CF hK hN hA hP hD hret ls hl
  have hS : va_S A s.heap s.heap [] := va_S.rf
  obtain ⟨hx, hb, hml, hown, hts⟩ := id CF
  have hl : lv_has ls 3 [(0, .ref q3), (1, .int v1)] := hl
  unfold m_X3_replaceHeld at hs
  refine lv_aload_n hx hb dX3_replaceHeld_0 rfl (lv_at hl 0 rfl) ?_
  refine va_get (D := (dC, dI)) (ci := 3) (v := .int he) (C := RX3) (T := TX3) (N := 6) hx hb hts (fun w h => kg1 (iG_3 w h)) hown hK hP 0 rfl rfl 3 (by decide) (hts _ (kg1 mG_43)) (fun _ h9 => h9) rfl dX3_replaceHeld_1 ?_
  refine lv_istore_n (lv' := [(2, .int he), (0, .ref q3), (1, .int v1)]) hx hb dX3_replaceHeld_4 rfl hl (by decide) rfl (fun ls hl => ?_)
  refine lv_aload_n hx hb dX3_replaceHeld_5 rfl (lv_at hl 1 rfl) ?_
  refine lv_iload_n hx hb dX3_replaceHeld_6 rfl (lv_at hl 2 rfl) ?_
  refine va_put (D := (dC, dI)) (ci := 3) (v := .int v1) (ty := .int) (C := RX3) (T := TX3) (N := 6) hx hb hts (fun w h => kg1 (iG_3 w h)) tyX3 tyX3_ok nmX3 hown hK hP hD hS 0 rfl rfl 3 (by decide) (hts _ (kg1 mG_43)) (fun _ h9 => h9) rfl rfl rfl rfl (Nat.le_of_ble_eq_true rfl) dX3_replaceHeld_7 (fun H locs hP hD hS => ?_)
  have hP : va_P (dC, dI) vwCl [(q3, .inr (3, [.ref q3fi, .ref q3to, .int th, .int v1, .int ma, .int ro])), (q3fi, .inl (cI, 12, .inl fi)), (q3to, .inl (cI, 12, .inl to))] H := hP
  have hD : va_D A [(q3, .inr (3, [.ref q3fi, .ref q3to, .int th, .int v1, .int ma, .int ro])), (q3fi, .inl (cI, 12, .inl fi)), (q3to, .inl (cI, 12, .inl to))] := hD
  refine lv_iload_n hx hb dX3_replaceHeld_10 rfl (lv_at hl 0 rfl) ?_
  cases hs
  exact hret _ _ _ _ hP hD hS (vp_nar_int _) dX3_replaceHeld_11
abbrev rm_X3_replaceMasons : Room := { frames := 0, cells := 0, slots := 0, locals := 0 }
theorem hd_X3_replaceMasons : yX3_replaceMasons.cls ≠ "java/lang/invoke/MethodHandle" ∧ yX3_replaceMasons.cls ≠ "java/lang/invoke/VarHandle" ∧ (parseMethodDescriptor yX3_replaceMasons.desc).map (fun d => d.parameters.length) = some 1 := by decide +kernel
set_option maxHeartbeats 4000000 in
set_option maxRecDepth 100000 in
theorem k_X3_replaceMasons (l : Launch) (dC : Nat → ClassId) (dI : Nat → Nat → Nat) (cI cZ cS : ClassId) (q3 q3fi q3to : Nat) (sz : Nat) (th : Int32) (he : Int32) (ma : Int32) (ro : Int32) (fi : Ar) (to : Ar) (v1 : Int32) (r0 : Int32) (ma_o : Int32) (hs : m_X3_replaceMasons v1 ma = some (r0, ma_o)) : Met l yX3_replaceMasons (.code yX3_replaceMasons cX3_replaceMasons 3 (some .int) :: kG) rm_X3_replaceMasons (va_Pc [.ref q3, .int v1] (kW (dC, dI) cI cZ cS [(q3, .inr (3, [.ref q3fi, .ref q3to, .int th, .int he, .int ma, .int ro])), (q3fi, .inl (cI, 12, .inl fi)), (q3to, .inl (cI, 12, .inl to))] sz)) (kQi (dC, dI) [(q3, .inr (3, [.ref q3fi, .ref q3to, .int th, .int he, .int ma, .int ro])), (q3fi, .inl (cI, 12, .inl fi)), (q3to, .inl (cI, 12, .inl to))] [(q3, .inr (3, [.ref q3fi, .ref q3to, .int th, .int he, .int ma_o, .int ro])), (q3fi, .inl (cI, 12, .inl fi)), (q3to, .inl (cI, 12, .inl to))] sz r0) 0 0 (va_A [(q3, .inr (3, [.ref q3fi, .ref q3to, .int th, .int he, .int ma, .int ro])), (q3fi, .inl (cI, 12, .inl fi)), (q3to, .inl (cI, 12, .inl to))] sz) := by
  refine kMi (own := RX3) (ty := .int) rfl (by decide) rfl ?_ (Nat.le_of_ble_eq_true rfl)
  intro p e s m args below meth c Q A CF hK hN hA hP hD hret ls hl
  have hS : va_S A s.heap s.heap [] := va_S.rf
  obtain ⟨hx, hb, hml, hown, hts⟩ := id CF
  have hl : lv_has ls 3 [(0, .ref q3), (1, .int v1)] := hl
  unfold m_X3_replaceMasons at hs
  refine lv_aload_n hx hb dX3_replaceMasons_0 rfl (lv_at hl 0 rfl) ?_
  refine va_get (D := (dC, dI)) (ci := 3) (v := .int ma) (C := RX3) (T := TX3) (N := 6) hx hb hts (fun w h => kg1 (iG_3 w h)) hown hK hP 0 rfl rfl 4 (by decide) (hts _ (kg1 mG_44)) (fun _ h9 => h9) rfl dX3_replaceMasons_1 ?_
  refine lv_istore_n (lv' := [(2, .int ma), (0, .ref q3), (1, .int v1)]) hx hb dX3_replaceMasons_4 rfl hl (by decide) rfl (fun ls hl => ?_)
  refine lv_aload_n hx hb dX3_replaceMasons_5 rfl (lv_at hl 1 rfl) ?_
  refine lv_iload_n hx hb dX3_replaceMasons_6 rfl (lv_at hl 2 rfl) ?_
  refine va_put (D := (dC, dI)) (ci := 3) (v := .int v1) (ty := .int) (C := RX3) (T := TX3) (N := 6) hx hb hts (fun w h => kg1 (iG_3 w h)) tyX3 tyX3_ok nmX3 hown hK hP hD hS 0 rfl rfl 4 (by decide) (hts _ (kg1 mG_44)) (fun _ h9 => h9) rfl rfl rfl rfl (Nat.le_of_ble_eq_true rfl) dX3_replaceMasons_7 (fun H locs hP hD hS => ?_)
  have hP : va_P (dC, dI) vwCl [(q3, .inr (3, [.ref q3fi, .ref q3to, .int th, .int he, .int v1, .int ro])), (q3fi, .inl (cI, 12, .inl fi)), (q3to, .inl (cI, 12, .inl to))] H := hP
  have hD : va_D A [(q3, .inr (3, [.ref q3fi, .ref q3to, .int th, .int he, .int v1, .int ro])), (q3fi, .inl (cI, 12, .inl fi)), (q3to, .inl (cI, 12, .inl to))] := hD
  refine lv_iload_n hx hb dX3_replaceMasons_10 rfl (lv_at hl 0 rfl) ?_
  cases hs
  exact hret _ _ _ _ hP hD hS (vp_nar_int _) dX3_replaceMasons_11
abbrev rm_X3_replaceRound : Room := { frames := 0, cells := 0, slots := 0, locals := 0 }
theorem hd_X3_replaceRound : yX3_replaceRound.cls ≠ "java/lang/invoke/MethodHandle" ∧ yX3_replaceRound.cls ≠ "java/lang/invoke/VarHandle" ∧ (parseMethodDescriptor yX3_replaceRound.desc).map (fun d => d.parameters.length) = some 1 := by decide +kernel
set_option maxHeartbeats 4000000 in
set_option maxRecDepth 100000 in
theorem k_X3_replaceRound (l : Launch) (dC : Nat → ClassId) (dI : Nat → Nat → Nat) (cI cZ cS : ClassId) (q3 q3fi q3to : Nat) (sz : Nat) (th : Int32) (he : Int32) (ma : Int32) (ro : Int32) (fi : Ar) (to : Ar) (v1 : Int32) (r0 : Int32) (ro_o : Int32) (hs : m_X3_replaceRound v1 ro = some (r0, ro_o)) : Met l yX3_replaceRound (.code yX3_replaceRound cX3_replaceRound 3 (some .int) :: kG) rm_X3_replaceRound (va_Pc [.ref q3, .int v1] (kW (dC, dI) cI cZ cS [(q3, .inr (3, [.ref q3fi, .ref q3to, .int th, .int he, .int ma, .int ro])), (q3fi, .inl (cI, 12, .inl fi)), (q3to, .inl (cI, 12, .inl to))] sz)) (kQi (dC, dI) [(q3, .inr (3, [.ref q3fi, .ref q3to, .int th, .int he, .int ma, .int ro])), (q3fi, .inl (cI, 12, .inl fi)), (q3to, .inl (cI, 12, .inl to))] [(q3, .inr (3, [.ref q3fi, .ref q3to, .int th, .int he, .int ma, .int ro_o])), (q3fi, .inl (cI, 12, .inl fi)), (q3to, .inl (cI, 12, .inl to))] sz r0) 0 0 (va_A [(q3, .inr (3, [.ref q3fi, .ref q3to, .int th, .int he, .int ma, .int ro])), (q3fi, .inl (cI, 12, .inl fi)), (q3to, .inl (cI, 12, .inl to))] sz) := by
  refine kMi (own := RX3) (ty := .int) rfl (by decide) rfl ?_ (Nat.le_of_ble_eq_true rfl)
  intro p e s m args below meth c Q A CF hK hN hA hP hD hret ls hl
  have hS : va_S A s.heap s.heap [] := va_S.rf
  obtain ⟨hx, hb, hml, hown, hts⟩ := id CF
  have hl : lv_has ls 3 [(0, .ref q3), (1, .int v1)] := hl
  unfold m_X3_replaceRound at hs
  refine lv_aload_n hx hb dX3_replaceRound_0 rfl (lv_at hl 0 rfl) ?_
  refine va_get (D := (dC, dI)) (ci := 3) (v := .int ro) (C := RX3) (T := TX3) (N := 6) hx hb hts (fun w h => kg1 (iG_3 w h)) hown hK hP 0 rfl rfl 5 (by decide) (hts _ (kg1 mG_45)) (fun _ h9 => h9) rfl dX3_replaceRound_1 ?_
  refine lv_istore_n (lv' := [(2, .int ro), (0, .ref q3), (1, .int v1)]) hx hb dX3_replaceRound_4 rfl hl (by decide) rfl (fun ls hl => ?_)
  refine lv_aload_n hx hb dX3_replaceRound_5 rfl (lv_at hl 1 rfl) ?_
  refine lv_iload_n hx hb dX3_replaceRound_6 rfl (lv_at hl 2 rfl) ?_
  refine va_put (D := (dC, dI)) (ci := 3) (v := .int v1) (ty := .int) (C := RX3) (T := TX3) (N := 6) hx hb hts (fun w h => kg1 (iG_3 w h)) tyX3 tyX3_ok nmX3 hown hK hP hD hS 0 rfl rfl 5 (by decide) (hts _ (kg1 mG_45)) (fun _ h9 => h9) rfl rfl rfl rfl (Nat.le_of_ble_eq_true rfl) dX3_replaceRound_7 (fun H locs hP hD hS => ?_)
  have hP : va_P (dC, dI) vwCl [(q3, .inr (3, [.ref q3fi, .ref q3to, .int th, .int he, .int ma, .int v1])), (q3fi, .inl (cI, 12, .inl fi)), (q3to, .inl (cI, 12, .inl to))] H := hP
  have hD : va_D A [(q3, .inr (3, [.ref q3fi, .ref q3to, .int th, .int he, .int ma, .int v1])), (q3fi, .inl (cI, 12, .inl fi)), (q3to, .inl (cI, 12, .inl to))] := hD
  refine lv_iload_n hx hb dX3_replaceRound_10 rfl (lv_at hl 0 rfl) ?_
  cases hs
  exact hret _ _ _ _ hP hD hS (vp_nar_int _) dX3_replaceRound_11
abbrev rm_X3_live : Room := { frames := 4, cells := 0, slots := 0, locals := 86 }
theorem hd_X3_live : yX3_live.cls ≠ "java/lang/invoke/MethodHandle" ∧ yX3_live.cls ≠ "java/lang/invoke/VarHandle" ∧ (parseMethodDescriptor yX3_live.desc).map (fun d => d.parameters.length) = some 2 := by decide +kernel
set_option maxHeartbeats 4000000 in
set_option maxRecDepth 100000 in
theorem k_X3_live (l : Launch) (dC : Nat → ClassId) (dI : Nat → Nat → Nat) (cI cZ cS : ClassId) (q3 q3fi q3to : Nat) (sz : Nat) (th : Int32) (he : Int32) (ma : Int32) (ro : Int32) (fi : Ar) (to : Ar) (v1 : Int32) (v2 : Int32) (he_o : Int32) (ro_o : Int32) (fi_o : Ar) (hs : m_X3_live v1 v2 th he ma ro fi to = some (he_o, ro_o, fi_o)) : Met l yX3_live (.code yX3_live cX3_live 6 none :: kG) rm_X3_live (va_Pc [.ref q3, .int v1, .int v2] (kW (dC, dI) cI cZ cS [(q3, .inr (3, [.ref q3fi, .ref q3to, .int th, .int he, .int ma, .int ro])), (q3fi, .inl (cI, 12, .inl fi)), (q3to, .inl (cI, 12, .inl to))] sz)) (kQv (dC, dI) [(q3, .inr (3, [.ref q3fi, .ref q3to, .int th, .int he, .int ma, .int ro])), (q3fi, .inl (cI, 12, .inl fi)), (q3to, .inl (cI, 12, .inl to))] [(q3, .inr (3, [.ref q3fi, .ref q3to, .int th, .int he_o, .int ma, .int ro_o])), (q3fi, .inl (cI, 12, .inl fi_o)), (q3to, .inl (cI, 12, .inl to))] sz) 0 0 (va_A [(q3, .inr (3, [.ref q3fi, .ref q3to, .int th, .int he, .int ma, .int ro])), (q3fi, .inl (cI, 12, .inl fi)), (q3to, .inl (cI, 12, .inl to))] sz) := by
  refine kMv (own := RX3) (by decide) rfl ?_ (Nat.le_of_ble_eq_true rfl)
  intro p e s m args below meth c Q A CF hK hN hA hP hD hret ls hl
  have hS : va_S A s.heap s.heap [] := va_S.rf
  obtain ⟨hx, hb, hml, hown, hts⟩ := id CF
  have hl : lv_has ls 6 [(0, .ref q3), (1, .int v1), (2, .int v2)] := hl
  unfold m_X3_live at hs
  refine lv_iload_n hx hb dX3_live_0 rfl (lv_at hl 1 rfl) ?_
  refine lv_istore_n (lv' := [(3, .int v1), (0, .ref q3), (1, .int v1), (2, .int v2)]) hx hb dX3_live_1 rfl hl (by decide) rfl (fun ls hl => ?_)
  refine lv_iconst (v := 0) hx hb dX3_live_2 (by decide) ?_
  refine lv_istore (lv' := [(4, .int (0 : Int32)), (3, .int v1), (0, .ref q3), (1, .int v1), (2, .int v2)]) hx hb dX3_live_3 hl (by decide) rfl (fun ls hl => ?_)
  have hL_5 : ∀ (n : Nat) (v3 : Int32) (v4 : Int32) (he : Int32) (ro : Int32) (fi : Ar) (H : Heap) (locs : List Loc) (ls : Array Slot), va_P (dC, dI) vwCl [(q3, .inr (3, [.ref q3fi, .ref q3to, .int th, .int he, .int ma, .int ro])), (q3fi, .inl (cI, 12, .inl fi)), (q3to, .inl (cI, 12, .inl to))] H → va_D A [(q3, .inr (3, [.ref q3fi, .ref q3to, .int th, .int he, .int ma, .int ro])), (q3fi, .inl (cI, 12, .inl fi)), (q3to, .inl (cI, 12, .inl to))] → va_S A s.heap H locs → lv_has ls 6 [(0, .ref q3), (2, .int v2), (3, .int v3), (4, .int v4)] → L_X3_live_5 v2 th ma to n v3 v4 he ro fi = some (he_o, ro_o, fi_o) → W p l e rm_X3_live s m args below meth c H locs 0 0 Q (F0 m 5 ls []) := by
    intro n
    induction n with
    | zero =>
      intro v3 v4 he ro fi H locs ls hP hD hS hl hs
      replace hs : (none : Option (Int32 × Int32 × Ar)) = some (he_o, ro_o, fi_o) := hs
      cases hs
    | succ n_5 ih_5 =>
      intro v3 v4 he ro fi H locs ls hP hD hS hl hs
      replace hs : b_X3_live_5  (L_X3_live_5 v2 th ma to n_5) v2 th ma to v3 v4 he ro fi = some (he_o, ro_o, fi_o) := hs
      unfold b_X3_live_5 at hs
      refine lv_iload hx hb dX3_live_5 (lv_at hl 3 rfl) ?_
      refine lv_iload_n hx hb dX3_live_7 rfl (lv_at hl 1 rfl) ?_
      refine lv_icmp_ge (tgt := 59) hx hb dX3_live_8 (by decide) (fun c_1 => ?_) (fun c_1 => ?_)
      · replace hs := if_p c_1 hs
        cases hs
        exact hret _ _ _ _ hP hD hS dX3_live_59
      · replace hs := if_n c_1 hs
        refine lv_bipush (v := 75) hx hb dX3_live_11 (by decide) ?_
        refine lv_iload_n hx hb dX3_live_13 rfl (lv_at hl 2 rfl) ?_
        refine lv_imul hx hb dX3_live_14 ?_
        refine lv_bipush (v := 74) hx hb dX3_live_15 (by decide) ?_
        refine lv_iadd hx hb dX3_live_17 ?_
        refine lv_ldc (v := 65537) hx hb hown (hts _ (kg1 mG_142)) dX3_live_18 ?_
        refine lv_irem hx hb dX3_live_20 (by decide) ?_
        refine lv_istore_n (lv' := [(3, .int (irem (((75 : Int32) * v3) + (74 : Int32)) (65537 : Int32))), (0, .ref q3), (2, .int v2), (4, .int v4)]) hx hb dX3_live_21 rfl hl (by decide) rfl (fun ls hl => ?_)
        refine lv_iload_n hx hb dX3_live_22 rfl (lv_at hl 0 rfl) ?_
        refine lv_bipush (v := 8) hx hb dX3_live_23 (by decide) ?_
        refine lv_irem hx hb dX3_live_25 (by decide) ?_
        refine kpi (va_runS (As := [.int (irem (irem (((75 : Int32) * v3) + (74 : Int32)) (65537 : Int32)) (8 : Int32))]) (rest := []) ⟨hx, hb, hml, hown, hts⟩ (k_X3_drawnSign l (irem (irem (((75 : Int32) * v3) + (74 : Int32)) (65537 : Int32)) (8 : Int32)) _ rfl) (va_cwS 1 hts (kGood (kgS mG_143 mG_144 mG_30 mG_141)) rfl rfl rfl hd_X3_drawnSign ⟨Nat.le_of_ble_eq_true rfl, Nat.le_of_ble_eq_true rfl⟩) preEq rfl rfl hl.1 rfl (lv_room (Nat.le_of_ble_eq_true rfl)) dX3_live_26 ⟨Nat.zero_le _, Nat.zero_le _⟩) ?_
        refine lv_topi (fun w_2 ew_2 => ?_)
        replace hs := bnd_e ew_2 hs
        refine lv_istore (lv' := [(5, .int w_2), (3, .int (irem (((75 : Int32) * v3) + (74 : Int32)) (65537 : Int32))), (0, .ref q3), (2, .int v2), (4, .int v4)]) hx hb dX3_live_29 hl (by decide) rfl (fun ls hl => ?_)
        refine lv_aload_n hx hb dX3_live_31 rfl (lv_at hl 2 rfl) ?_
        refine lv_iload hx hb dX3_live_32 (lv_at hl 0 rfl) ?_
        refine kci (wr := []) (ws' := [(q3, .inr (3, [.ref q3fi, .ref q3to, .int th, .int he, .int ma, .int ro])), (q3fi, .inl (cI, 12, .inl fi)), (q3to, .inl (cI, 12, .inl to))]) (va_runV (As := [.int w_2]) (rest := []) ⟨hx, hb, hml, hown, hts⟩ (k_X3_obstacle l dC dI cI cZ cS q3 q3fi q3to H.size th he ma ro fi to w_2 _ rfl) (cwV 1 hts (kGood (kgV mG_145 mG_123 mG_124 mG_30 mG_74)) rfl rfl rfl ⟨rfl, hd_X3_obstacle⟩ ⟨Nat.le_of_ble_eq_true rfl, Nat.le_of_ble_eq_true rfl⟩) (kpV hK hN (hP.sub (ws' := [(q3, .inr (3, [.ref q3fi, .ref q3to, .int th, .int he, .int ma, .int ro])), (q3fi, .inl (cI, 12, .inl fi)), (q3to, .inl (cI, 12, .inl to))]) [0, 1, 2] rfl) (hD.sub (ws' := [(q3, .inr (3, [.ref q3fi, .ref q3to, .int th, .int he, .int ma, .int ro])), (q3fi, .inl (cI, 12, .inl fi)), (q3to, .inl (cI, 12, .inl to))]) [0, 1, 2] rfl rfl) rfl rfl rfl) rfl rfl hl.1 rfl (lv_room (Nat.le_of_ble_eq_true rfl)) dX3_live_34 ⟨Nat.zero_le _, Nat.zero_le _⟩) hP hD hS hA [0, 1, 2] [] [0, 1, 2] rfl rfl rfl (by decide) rfl rfl (fun H locs hP hD hS => ?_)
        refine lv_if_ne (tgt := 53) hx hb dX3_live_37 (by decide) (fun c_3 => ?_) (fun c_3 => ?_)
        · replace hs := if_n c_3 hs
          refine lv_iinc (v := (v4 + 1)) (lv' := [(4, .int (v4 + 1)), (5, .int w_2), (3, .int (irem (((75 : Int32) * v3) + (74 : Int32)) (65537 : Int32))), (0, .ref q3), (2, .int v2)]) hx hb dX3_live_53 hl (k := 4) rfl rfl (by decide) rfl (fun ls hl => ?_)
          refine lv_goto (tgt := 5) hx hb dX3_live_56 (by decide) ?_
          exact ih_5 (irem (((75 : Int32) * v3) + (74 : Int32)) (65537 : Int32)) (v4 + 1) he ro fi _ _ _ hP hD hS (lv_sub hl [3, 4, 2, 0] rfl) hs
        · replace hs := if_p c_3 hs
          refine lv_aload_n hx hb dX3_live_40 rfl (lv_at hl 2 rfl) ?_
          refine lv_iload hx hb dX3_live_41 (lv_at hl 0 rfl) ?_
          refine lv_iload_n hx hb dX3_live_43 rfl (lv_at hl 1 rfl) ?_
          refine lv_bipush (v := 8) hx hb dX3_live_44 (by decide) ?_
          refine lv_idiv hx hb dX3_live_46 (by decide) ?_
          refine lv_bipush (v := 10) hx hb dX3_live_47 (by decide) ?_
          refine lv_irem hx hb dX3_live_49 (by decide) ?_
          obtain ⟨he_4, ro_5, fi_6, hc_7, hs⟩ := ob3_e hs
          refine kcv (wr := []) (ws' := [(q3, .inr (3, [.ref q3fi, .ref q3to, .int th, .int he_4, .int ma, .int ro_5])), (q3fi, .inl (cI, 12, .inl fi_6)), (q3to, .inl (cI, 12, .inl to))]) (va_runV (As := [.int w_2, .int (irem ((irem (((75 : Int32) * v3) + (74 : Int32)) (65537 : Int32)) / (8 : Int32)) (10 : Int32))]) (rest := []) ⟨hx, hb, hml, hown, hts⟩ (k_X3_act l dC dI cI cZ cS q3 q3fi q3to H.size th he ma ro fi to w_2 (irem ((irem (((75 : Int32) * v3) + (74 : Int32)) (65537 : Int32)) / (8 : Int32)) (10 : Int32)) he_4 ro_5 fi_6 hc_7) (cwV 2 hts (kGood (kgV mG_146 mG_132 mG_133 mG_30 mG_109)) rfl rfl rfl ⟨rfl, hd_X3_act⟩ ⟨Nat.le_of_ble_eq_true rfl, Nat.le_of_ble_eq_true rfl⟩) (kpV hK hN (hP.sub (ws' := [(q3, .inr (3, [.ref q3fi, .ref q3to, .int th, .int he, .int ma, .int ro])), (q3fi, .inl (cI, 12, .inl fi)), (q3to, .inl (cI, 12, .inl to))]) [0, 1, 2] rfl) (hD.sub (ws' := [(q3, .inr (3, [.ref q3fi, .ref q3to, .int th, .int he, .int ma, .int ro])), (q3fi, .inl (cI, 12, .inl fi)), (q3to, .inl (cI, 12, .inl to))]) [0, 1, 2] rfl rfl) rfl rfl rfl) rfl rfl hl.1 rfl (lv_room (Nat.le_of_ble_eq_true rfl)) dX3_live_50 ⟨Nat.zero_le _, Nat.zero_le _⟩) hP hD hS hA [0, 1, 2] [] [0, 1, 2] rfl rfl rfl (by decide) rfl rfl (fun H locs hP hD hS => ?_)
          refine lv_iinc (v := (v4 + 1)) (lv' := [(4, .int (v4 + 1)), (5, .int w_2), (3, .int (irem (((75 : Int32) * v3) + (74 : Int32)) (65537 : Int32))), (0, .ref q3), (2, .int v2)]) hx hb dX3_live_53 hl (k := 4) rfl rfl (by decide) rfl (fun ls hl => ?_)
          refine lv_goto (tgt := 5) hx hb dX3_live_56 (by decide) ?_
          exact ih_5 (irem (((75 : Int32) * v3) + (74 : Int32)) (65537 : Int32)) (v4 + 1) he_4 ro_5 fi_6 _ _ _ hP hD hS (lv_sub hl [3, 4, 2, 0] rfl) hs
  exact hL_5 fu v1 (0 : Int32) he ro fi _ _ _ hP hD hS (lv_sub hl [2, 4, 1, 0] rfl) hs
abbrev rm_X3_noiseFor : Room := { frames := 1, cells := 0, slots := 0, locals := 21 }
theorem hd_X3_noiseFor : yX3_noiseFor.cls ≠ "java/lang/invoke/MethodHandle" ∧ yX3_noiseFor.cls ≠ "java/lang/invoke/VarHandle" ∧ (parseMethodDescriptor yX3_noiseFor.desc).map (fun d => d.parameters.length) = some 2 := by decide +kernel
set_option maxHeartbeats 4000000 in
set_option maxRecDepth 100000 in
theorem k_X3_noiseFor (l : Launch) (dC : Nat → ClassId) (dI : Nat → Nat → Nat) (cI cZ cS : ClassId) (q3 q3fi q3to : Nat) (sz : Nat) (th : Int32) (he : Int32) (ma : Int32) (ro : Int32) (fi : Ar) (to : Ar) (v1 : Int32) (v2 : Int32) (r0 : Int32) (hs : m_X3_noiseFor v1 v2 th fi = some r0) : Met l yX3_noiseFor (.code yX3_noiseFor cX3_noiseFor 6 (some .int) :: kG) rm_X3_noiseFor (va_Pc [.ref q3, .int v1, .int v2] (kW (dC, dI) cI cZ cS [(q3, .inr (3, [.ref q3fi, .ref q3to, .int th, .int he, .int ma, .int ro])), (q3fi, .inl (cI, 12, .inl fi)), (q3to, .inl (cI, 12, .inl to))] sz)) (kQi (dC, dI) [(q3, .inr (3, [.ref q3fi, .ref q3to, .int th, .int he, .int ma, .int ro])), (q3fi, .inl (cI, 12, .inl fi)), (q3to, .inl (cI, 12, .inl to))] [(q3, .inr (3, [.ref q3fi, .ref q3to, .int th, .int he, .int ma, .int ro])), (q3fi, .inl (cI, 12, .inl fi)), (q3to, .inl (cI, 12, .inl to))] sz r0) 0 0 (va_A [(q3, .inr (3, [.ref q3fi, .ref q3to, .int th, .int he, .int ma, .int ro])), (q3fi, .inl (cI, 12, .inl fi)), (q3to, .inl (cI, 12, .inl to))] sz) := by
  refine kMi (own := RX3) (ty := .int) rfl (by decide) rfl ?_ (Nat.le_of_ble_eq_true rfl)
  intro p e s m args below meth c Q A CF hK hN hA hP hD hret ls hl
  have hS : va_S A s.heap s.heap [] := va_S.rf
  obtain ⟨hx, hb, hml, hown, hts⟩ := id CF
  have hl : lv_has ls 6 [(0, .ref q3), (1, .int v1), (2, .int v2)] := hl
  unfold m_X3_noiseFor at hs
  refine lv_iconst (v := 0) hx hb dX3_noiseFor_0 (by decide) ?_
  refine lv_istore_n (lv' := [(3, .int (0 : Int32)), (0, .ref q3), (1, .int v1), (2, .int v2)]) hx hb dX3_noiseFor_1 rfl hl (by decide) rfl (fun ls hl => ?_)
  refine lv_iconst (v := 0) hx hb dX3_noiseFor_2 (by decide) ?_
  refine lv_istore (lv' := [(4, .int (0 : Int32)), (3, .int (0 : Int32)), (0, .ref q3), (1, .int v1), (2, .int v2)]) hx hb dX3_noiseFor_3 hl (by decide) rfl (fun ls hl => ?_)
  have hL_5 : ∀ (n : Nat) (v3 : Int32) (v4 : Int32) (H : Heap) (locs : List Loc) (ls : Array Slot), va_P (dC, dI) vwCl [(q3, .inr (3, [.ref q3fi, .ref q3to, .int th, .int he, .int ma, .int ro])), (q3fi, .inl (cI, 12, .inl fi)), (q3to, .inl (cI, 12, .inl to))] H → va_D A [(q3, .inr (3, [.ref q3fi, .ref q3to, .int th, .int he, .int ma, .int ro])), (q3fi, .inl (cI, 12, .inl fi)), (q3to, .inl (cI, 12, .inl to))] → va_S A s.heap H locs → lv_has ls 6 [(0, .ref q3), (1, .int v1), (2, .int v2), (3, .int v3), (4, .int v4)] → L_X3_noiseFor_5 v1 v2 th fi n v3 v4 = some r0 → W p l e rm_X3_noiseFor s m args below meth c H locs 0 0 Q (F0 m 5 ls []) := by
    intro n
    induction n with
    | zero =>
      intro v3 v4 H locs ls hP hD hS hl hs
      replace hs : (none : Option (Int32)) = some r0 := hs
      cases hs
    | succ n_5 ih_5 =>
      intro v3 v4 H locs ls hP hD hS hl hs
      replace hs : b_X3_noiseFor_5  (L_X3_noiseFor_5 v1 v2 th fi n_5) v1 v2 th fi v3 v4 = some r0 := hs
      unfold b_X3_noiseFor_5 at hs
      refine lv_iload hx hb dX3_noiseFor_5 (lv_at hl 4 rfl) ?_
      refine lv_iload_n hx hb dX3_noiseFor_7 rfl (lv_at hl 2 rfl) ?_
      refine lv_icmp_ge (tgt := 50) hx hb dX3_noiseFor_8 (by decide) (fun c_1 => ?_) (fun c_1 => ?_)
      · replace hs := if_p c_1 hs
        refine lv_iload_n hx hb dX3_noiseFor_50 rfl (lv_at hl 3 rfl) ?_
        cases hs
        exact hret _ _ _ _ hP hD hS (vp_nar_int _) dX3_noiseFor_51
      · replace hs := if_n c_1 hs
        refine lv_iload_n hx hb dX3_noiseFor_11 rfl (lv_at hl 1 rfl) ?_
        refine lv_iload hx hb dX3_noiseFor_12 (lv_at hl 4 rfl) ?_
        refine lv_iadd hx hb dX3_noiseFor_14 ?_
        refine lv_bipush (v := 12) hx hb dX3_noiseFor_15 (by decide) ?_
        refine lv_irem hx hb dX3_noiseFor_17 (by decide) ?_
        refine lv_istore (lv' := [(5, .int (irem (v1 + v4) (12 : Int32))), (0, .ref q3), (1, .int v1), (2, .int v2), (3, .int v3), (4, .int v4)]) hx hb dX3_noiseFor_18 hl (by decide) rfl (fun ls hl => ?_)
        refine lv_aload_n hx hb dX3_noiseFor_20 rfl (lv_at hl 1 rfl) ?_
        refine lv_iload hx hb dX3_noiseFor_21 (lv_at hl 0 rfl) ?_
        obtain ⟨r_2, hc_3, hs⟩ := ob1_e hs
        refine kci (wr := []) (ws' := [(q3, .inr (3, [.ref q3fi, .ref q3to, .int th, .int he, .int ma, .int ro])), (q3fi, .inl (cI, 12, .inl fi)), (q3to, .inl (cI, 12, .inl to))]) (va_runV (As := [.int (irem (v1 + v4) (12 : Int32))]) (rest := []) ⟨hx, hb, hml, hown, hts⟩ (k_X3_isSpared l dC dI cI cZ cS q3 q3fi q3to H.size th he ma ro fi to (irem (v1 + v4) (12 : Int32)) r_2 hc_3) (cwV 1 hts (kGood (kgV mG_78 mG_79 mG_80 mG_30 mG_76)) rfl rfl rfl ⟨rfl, hd_X3_isSpared⟩ ⟨Nat.le_of_ble_eq_true rfl, Nat.le_of_ble_eq_true rfl⟩) (kpV hK hN (hP.sub (ws' := [(q3, .inr (3, [.ref q3fi, .ref q3to, .int th, .int he, .int ma, .int ro])), (q3fi, .inl (cI, 12, .inl fi)), (q3to, .inl (cI, 12, .inl to))]) [0, 1, 2] rfl) (hD.sub (ws' := [(q3, .inr (3, [.ref q3fi, .ref q3to, .int th, .int he, .int ma, .int ro])), (q3fi, .inl (cI, 12, .inl fi)), (q3to, .inl (cI, 12, .inl to))]) [0, 1, 2] rfl rfl) rfl rfl rfl) rfl rfl hl.1 rfl (lv_room (Nat.le_of_ble_eq_true rfl)) dX3_noiseFor_23 ⟨Nat.zero_le _, Nat.zero_le _⟩) hP hD hS hA [0, 1, 2] [] [0, 1, 2] rfl rfl rfl (by decide) rfl rfl (fun H locs hP hD hS => ?_)
        refine lv_if_eq (tgt := 32) hx hb dX3_noiseFor_26 (by decide) (fun c_4 => ?_) (fun c_4 => ?_)
        · replace hs := if_p c_4 hs
          refine lv_iload_n hx hb dX3_noiseFor_32 rfl (lv_at hl 4 rfl) ?_
          refine lv_aload_n hx hb dX3_noiseFor_33 rfl (lv_at hl 1 rfl) ?_
          refine va_get (D := (dC, dI)) (ci := 3) (v := .ref q3fi) (C := RX3) (T := TX3) (N := 6) hx hb hts (fun w h => kg1 (iG_3 w h)) hown hK hP 0 rfl rfl 0 (by decide) (hts _ (kg1 mG_21)) (fun _ h9 => h9) rfl dX3_noiseFor_34 ?_
          refine lv_iload hx hb dX3_noiseFor_37 (lv_at hl 0 rfl) ?_
          obtain ⟨hg_5, hs⟩ := gd_e hs
          refine kald hx hb hK hP 1 0 rfl rfl (j := (Int32.toNatClampNeg (irem (v1 + v4) (12 : Int32)))) rfl (inb_e hg_5) dX3_noiseFor_39 ?_
          refine va_mmax hx hb (by rw [hml]; exact hl.1.symm) hown (hts _ (kg1 mG_83)) (hts _ (kg1 mG_84)) (hts _ (kg1 mG_85)) (hts _ (kg1 mG_86)) (Nat.le_of_ble_eq_true rfl) (Nat.le_of_ble_eq_true rfl) (Nat.zero_le _) (Nat.zero_le _) dX3_noiseFor_40 ?_
          refine lv_istore_n (lv' := [(3, .int (imax v3 (fi (Int32.toNatClampNeg (irem (v1 + v4) (12 : Int32)))))), (5, .int (irem (v1 + v4) (12 : Int32))), (0, .ref q3), (1, .int v1), (2, .int v2), (4, .int v4)]) hx hb dX3_noiseFor_43 rfl hl (by decide) rfl (fun ls hl => ?_)
          refine lv_iinc (v := (v4 + 1)) (lv' := [(4, .int (v4 + 1)), (3, .int (imax v3 (fi (Int32.toNatClampNeg (irem (v1 + v4) (12 : Int32)))))), (5, .int (irem (v1 + v4) (12 : Int32))), (0, .ref q3), (1, .int v1), (2, .int v2)]) hx hb dX3_noiseFor_44 hl (k := 5) rfl rfl (by decide) rfl (fun ls hl => ?_)
          refine lv_goto (tgt := 5) hx hb dX3_noiseFor_47 (by decide) ?_
          exact ih_5 (imax v3 (fi (Int32.toNatClampNeg (irem (v1 + v4) (12 : Int32))))) (v4 + 1) _ _ _ hP hD hS (lv_sub hl [3, 4, 5, 1, 0] rfl) hs
        · replace hs := if_n c_4 hs
          refine lv_bipush (v := -6) hx hb dX3_noiseFor_29 (by decide) ?_
          cases hs
          exact hret _ _ _ _ hP hD hS (vp_nar_int _) dX3_noiseFor_31
  exact hL_5 fu (0 : Int32) (0 : Int32) _ _ _ hP hD hS (lv_sub hl [2, 3, 4, 1, 0] rfl) hs
abbrev rm_X3_silentRoundsFor : Room := { frames := 2, cells := 0, slots := 0, locals := 46 }
theorem hd_X3_silentRoundsFor : yX3_silentRoundsFor.cls ≠ "java/lang/invoke/MethodHandle" ∧ yX3_silentRoundsFor.cls ≠ "java/lang/invoke/VarHandle" ∧ (parseMethodDescriptor yX3_silentRoundsFor.desc).map (fun d => d.parameters.length) = some 1 := by decide +kernel
set_option maxHeartbeats 4000000 in
set_option maxRecDepth 100000 in
theorem k_X3_silentRoundsFor (l : Launch) (dC : Nat → ClassId) (dI : Nat → Nat → Nat) (cI cZ cS : ClassId) (q3 q3fi q3to : Nat) (sz : Nat) (th : Int32) (he : Int32) (ma : Int32) (ro : Int32) (fi : Ar) (to : Ar) (v1 : Int32) (r0 : Int32) (hs : m_X3_silentRoundsFor v1 th he fi = some r0) : Met l yX3_silentRoundsFor (.code yX3_silentRoundsFor cX3_silentRoundsFor 6 (some .int) :: kG) rm_X3_silentRoundsFor (va_Pc [.ref q3, .int v1] (kW (dC, dI) cI cZ cS [(q3, .inr (3, [.ref q3fi, .ref q3to, .int th, .int he, .int ma, .int ro])), (q3fi, .inl (cI, 12, .inl fi)), (q3to, .inl (cI, 12, .inl to))] sz)) (kQi (dC, dI) [(q3, .inr (3, [.ref q3fi, .ref q3to, .int th, .int he, .int ma, .int ro])), (q3fi, .inl (cI, 12, .inl fi)), (q3to, .inl (cI, 12, .inl to))] [(q3, .inr (3, [.ref q3fi, .ref q3to, .int th, .int he, .int ma, .int ro])), (q3fi, .inl (cI, 12, .inl fi)), (q3to, .inl (cI, 12, .inl to))] sz r0) 0 0 (va_A [(q3, .inr (3, [.ref q3fi, .ref q3to, .int th, .int he, .int ma, .int ro])), (q3fi, .inl (cI, 12, .inl fi)), (q3to, .inl (cI, 12, .inl to))] sz) := by
  refine kMi (own := RX3) (ty := .int) rfl (by decide) rfl ?_ (Nat.le_of_ble_eq_true rfl)
  intro p e s m args below meth c Q A CF hK hN hA hP hD hret ls hl
  have hS : va_S A s.heap s.heap [] := va_S.rf
  obtain ⟨hx, hb, hml, hown, hts⟩ := id CF
  have hl : lv_has ls 6 [(0, .ref q3), (1, .int v1)] := hl
  unfold m_X3_silentRoundsFor at hs
  refine lv_bipush (v := -6) hx hb dX3_silentRoundsFor_0 (by decide) ?_
  refine lv_istore_n (lv' := [(2, .int (-6 : Int32)), (0, .ref q3), (1, .int v1)]) hx hb dX3_silentRoundsFor_2 rfl hl (by decide) rfl (fun ls hl => ?_)
  refine lv_iconst (v := 0) hx hb dX3_silentRoundsFor_3 (by decide) ?_
  refine lv_istore_n (lv' := [(3, .int (0 : Int32)), (2, .int (-6 : Int32)), (0, .ref q3), (1, .int v1)]) hx hb dX3_silentRoundsFor_4 rfl hl (by decide) rfl (fun ls hl => ?_)
  have hL_5 : ∀ (n : Nat) (v2 : Int32) (v3 : Int32) (H : Heap) (locs : List Loc) (ls : Array Slot), va_P (dC, dI) vwCl [(q3, .inr (3, [.ref q3fi, .ref q3to, .int th, .int he, .int ma, .int ro])), (q3fi, .inl (cI, 12, .inl fi)), (q3to, .inl (cI, 12, .inl to))] H → va_D A [(q3, .inr (3, [.ref q3fi, .ref q3to, .int th, .int he, .int ma, .int ro])), (q3fi, .inl (cI, 12, .inl fi)), (q3to, .inl (cI, 12, .inl to))] → va_S A s.heap H locs → lv_has ls 6 [(0, .ref q3), (1, .int v1), (2, .int v2), (3, .int v3)] → L_X3_silentRoundsFor_5 v1 th he fi n v2 v3 = some r0 → W p l e rm_X3_silentRoundsFor s m args below meth c H locs 0 0 Q (F0 m 5 ls []) := by
    intro n
    induction n with
    | zero =>
      intro v2 v3 H locs ls hP hD hS hl hs
      replace hs : (none : Option (Int32)) = some r0 := hs
      cases hs
    | succ n_5 ih_5 =>
      intro v2 v3 H locs ls hP hD hS hl hs
      replace hs : b_X3_silentRoundsFor_5  (L_X3_silentRoundsFor_5 v1 th he fi n_5) v1 th he fi v2 v3 = some r0 := hs
      unfold b_X3_silentRoundsFor_5 at hs
      refine lv_iload_n hx hb dX3_silentRoundsFor_5 rfl (lv_at hl 3 rfl) ?_
      refine lv_bipush (v := 12) hx hb dX3_silentRoundsFor_6 (by decide) ?_
      refine lv_icmp_ge (tgt := 60) hx hb dX3_silentRoundsFor_8 (by decide) (fun c_1 => ?_) (fun c_1 => ?_)
      · replace hs := if_p c_1 hs
        refine lv_iload_n hx hb dX3_silentRoundsFor_60 rfl (lv_at hl 2 rfl) ?_
        cases hs
        exact hret _ _ _ _ hP hD hS (vp_nar_int _) dX3_silentRoundsFor_61
      · replace hs := if_n c_1 hs
        refine lv_aload_n hx hb dX3_silentRoundsFor_11 rfl (lv_at hl 0 rfl) ?_
        refine lv_iload_n hx hb dX3_silentRoundsFor_12 rfl (lv_at hl 3 rfl) ?_
        refine lv_iload_n hx hb dX3_silentRoundsFor_13 rfl (lv_at hl 1 rfl) ?_
        obtain ⟨r_2, hc_3, hs⟩ := ob1_e hs
        refine kci (wr := []) (ws' := [(q3, .inr (3, [.ref q3fi, .ref q3to, .int th, .int he, .int ma, .int ro])), (q3fi, .inl (cI, 12, .inl fi)), (q3to, .inl (cI, 12, .inl to))]) (va_runV (As := [.int v3, .int v1]) (rest := []) ⟨hx, hb, hml, hown, hts⟩ (k_X3_noiseFor l dC dI cI cZ cS q3 q3fi q3to H.size th he ma ro fi to v3 v1 r_2 hc_3) (cwV 2 hts (kGood (kgV mG_150 mG_151 mG_152 mG_30 mG_148)) rfl rfl rfl ⟨rfl, hd_X3_noiseFor⟩ ⟨Nat.le_of_ble_eq_true rfl, Nat.le_of_ble_eq_true rfl⟩) (kpV hK hN (hP.sub (ws' := [(q3, .inr (3, [.ref q3fi, .ref q3to, .int th, .int he, .int ma, .int ro])), (q3fi, .inl (cI, 12, .inl fi)), (q3to, .inl (cI, 12, .inl to))]) [0, 1, 2] rfl) (hD.sub (ws' := [(q3, .inr (3, [.ref q3fi, .ref q3to, .int th, .int he, .int ma, .int ro])), (q3fi, .inl (cI, 12, .inl fi)), (q3to, .inl (cI, 12, .inl to))]) [0, 1, 2] rfl rfl) rfl rfl rfl) rfl rfl hl.1 rfl (lv_room (Nat.le_of_ble_eq_true rfl)) dX3_silentRoundsFor_14 ⟨Nat.zero_le _, Nat.zero_le _⟩) hP hD hS hA [0, 1, 2] [] [0, 1, 2] rfl rfl rfl (by decide) rfl rfl (fun H locs hP hD hS => ?_)
        refine lv_istore (lv' := [(4, .int r_2), (0, .ref q3), (1, .int v1), (2, .int v2), (3, .int v3)]) hx hb dX3_silentRoundsFor_17 hl (by decide) rfl (fun ls hl => ?_)
        refine lv_iconst (v := 0) hx hb dX3_silentRoundsFor_19 (by decide) ?_
        refine lv_iload hx hb dX3_silentRoundsFor_20 (lv_at hl 0 rfl) ?_
        refine lv_aload_n hx hb dX3_silentRoundsFor_22 rfl (lv_at hl 1 rfl) ?_
        refine va_get (D := (dC, dI)) (ci := 3) (v := .int he) (C := RX3) (T := TX3) (N := 6) hx hb hts (fun w h => kg1 (iG_3 w h)) hown hK hP 0 rfl rfl 3 (by decide) (hts _ (kg1 mG_43)) (fun _ h9 => h9) rfl dX3_silentRoundsFor_23 ?_
        refine lv_isub hx hb dX3_silentRoundsFor_26 ?_
        refine va_mmax hx hb (by rw [hml]; exact hl.1.symm) hown (hts _ (kg1 mG_83)) (hts _ (kg1 mG_84)) (hts _ (kg1 mG_85)) (hts _ (kg1 mG_86)) (Nat.le_of_ble_eq_true rfl) (Nat.le_of_ble_eq_true rfl) (Nat.zero_le _) (Nat.zero_le _) dX3_silentRoundsFor_27 ?_
        refine lv_istore (lv' := [(5, .int (imax (0 : Int32) (r_2 - he))), (4, .int r_2), (0, .ref q3), (1, .int v1), (2, .int v2), (3, .int v3)]) hx hb dX3_silentRoundsFor_30 hl (by decide) rfl (fun ls hl => ?_)
        refine lv_iload hx hb dX3_silentRoundsFor_32 (lv_at hl 1 rfl) ?_
        refine lv_bipush (v := -6) hx hb dX3_silentRoundsFor_34 (by decide) ?_
        refine lv_icmp_eq (tgt := 54) hx hb dX3_silentRoundsFor_36 (by decide) (fun c_4 => ?_) (fun c_4 => ?_)
        · replace hs := if_p c_4 hs
          refine lv_iinc (v := (v3 + 1)) (lv' := [(3, .int (v3 + 1)), (5, .int (imax (0 : Int32) (r_2 - he))), (4, .int r_2), (0, .ref q3), (1, .int v1), (2, .int v2)]) hx hb dX3_silentRoundsFor_54 hl (k := 5) rfl rfl (by decide) rfl (fun ls hl => ?_)
          refine lv_goto (tgt := 5) hx hb dX3_silentRoundsFor_57 (by decide) ?_
          exact ih_5 v2 (v3 + 1) _ _ _ hP hD hS (lv_sub hl [3, 4, 5, 0] rfl) hs
        · replace hs := if_n c_4 hs
          refine lv_iload_n hx hb dX3_silentRoundsFor_39 rfl (lv_at hl 4 rfl) ?_
          refine lv_bipush (v := -6) hx hb dX3_silentRoundsFor_40 (by decide) ?_
          refine lv_icmp_eq (tgt := 51) hx hb dX3_silentRoundsFor_42 (by decide) (fun c_5 => ?_) (fun c_5 => ?_)
          · replace hs := if_p c_5 hs
            refine lv_iload hx hb dX3_silentRoundsFor_51 (lv_at hl 0 rfl) ?_
            refine lv_istore_n (lv' := [(2, .int (imax (0 : Int32) (r_2 - he))), (5, .int (imax (0 : Int32) (r_2 - he))), (4, .int r_2), (0, .ref q3), (1, .int v1), (3, .int v3)]) hx hb dX3_silentRoundsFor_53 rfl hl (by decide) rfl (fun ls hl => ?_)
            refine lv_iinc (v := (v3 + 1)) (lv' := [(3, .int (v3 + 1)), (2, .int (imax (0 : Int32) (r_2 - he))), (5, .int (imax (0 : Int32) (r_2 - he))), (4, .int r_2), (0, .ref q3), (1, .int v1)]) hx hb dX3_silentRoundsFor_54 hl (k := 5) rfl rfl (by decide) rfl (fun ls hl => ?_)
            refine lv_goto (tgt := 5) hx hb dX3_silentRoundsFor_57 (by decide) ?_
            exact ih_5 (imax (0 : Int32) (r_2 - he)) (v3 + 1) _ _ _ hP hD hS (lv_sub hl [4, 5, 1, 0] rfl) hs
          · replace hs := if_n c_5 hs
            refine lv_iload hx hb dX3_silentRoundsFor_45 (lv_at hl 0 rfl) ?_
            refine lv_iload_n hx hb dX3_silentRoundsFor_47 rfl (lv_at hl 4 rfl) ?_
            refine lv_icmp_ge (tgt := 54) hx hb dX3_silentRoundsFor_48 (by decide) (fun c_6 => ?_) (fun c_6 => ?_)
            · replace hs := if_p c_6 hs
              refine lv_iinc (v := (v3 + 1)) (lv' := [(3, .int (v3 + 1)), (5, .int (imax (0 : Int32) (r_2 - he))), (4, .int r_2), (0, .ref q3), (1, .int v1), (2, .int v2)]) hx hb dX3_silentRoundsFor_54 hl (k := 5) rfl rfl (by decide) rfl (fun ls hl => ?_)
              refine lv_goto (tgt := 5) hx hb dX3_silentRoundsFor_57 (by decide) ?_
              exact ih_5 v2 (v3 + 1) _ _ _ hP hD hS (lv_sub hl [3, 4, 5, 0] rfl) hs
            · replace hs := if_n c_6 hs
              refine lv_iload hx hb dX3_silentRoundsFor_51 (lv_at hl 0 rfl) ?_
              refine lv_istore_n (lv' := [(2, .int (imax (0 : Int32) (r_2 - he))), (5, .int (imax (0 : Int32) (r_2 - he))), (4, .int r_2), (0, .ref q3), (1, .int v1), (3, .int v3)]) hx hb dX3_silentRoundsFor_53 rfl hl (by decide) rfl (fun ls hl => ?_)
              refine lv_iinc (v := (v3 + 1)) (lv' := [(3, .int (v3 + 1)), (2, .int (imax (0 : Int32) (r_2 - he))), (5, .int (imax (0 : Int32) (r_2 - he))), (4, .int r_2), (0, .ref q3), (1, .int v1)]) hx hb dX3_silentRoundsFor_54 hl (k := 5) rfl rfl (by decide) rfl (fun ls hl => ?_)
              refine lv_goto (tgt := 5) hx hb dX3_silentRoundsFor_57 (by decide) ?_
              exact ih_5 (imax (0 : Int32) (r_2 - he)) (v3 + 1) _ _ _ hP hD hS (lv_sub hl [4, 5, 1, 0] rfl) hs
  exact hL_5 fu (-6 : Int32) (0 : Int32) _ _ _ hP hD hS (lv_sub hl [2, 3, 1, 0] rfl) hs
abbrev rm_X3_downByHorns : Room := { frames := 1, cells := 0, slots := 0, locals := 22 }
theorem hd_X3_downByHorns : yX3_downByHorns.cls ≠ "java/lang/invoke/MethodHandle" ∧ yX3_downByHorns.cls ≠ "java/lang/invoke/VarHandle" ∧ (parseMethodDescriptor yX3_downByHorns.desc).map (fun d => d.parameters.length) = some 2 := by decide +kernel
set_option maxHeartbeats 4000000 in
set_option maxRecDepth 100000 in
theorem k_X3_downByHorns (l : Launch) (dC : Nat → ClassId) (dI : Nat → Nat → Nat) (cI cZ cS : ClassId) (q3 q3fi q3to : Nat) (sz : Nat) (th : Int32) (he : Int32) (ma : Int32) (ro : Int32) (fi : Ar) (to : Ar) (v1 : Int32) (v2 : Int32) (r0 : Int32) (hs : m_X3_downByHorns v1 v2 th fi to = some r0) : Met l yX3_downByHorns (.code yX3_downByHorns cX3_downByHorns 8 (some .int) :: kG) rm_X3_downByHorns (va_Pc [.ref q3, .int v1, .int v2] (kW (dC, dI) cI cZ cS [(q3, .inr (3, [.ref q3fi, .ref q3to, .int th, .int he, .int ma, .int ro])), (q3fi, .inl (cI, 12, .inl fi)), (q3to, .inl (cI, 12, .inl to))] sz)) (kQi (dC, dI) [(q3, .inr (3, [.ref q3fi, .ref q3to, .int th, .int he, .int ma, .int ro])), (q3fi, .inl (cI, 12, .inl fi)), (q3to, .inl (cI, 12, .inl to))] [(q3, .inr (3, [.ref q3fi, .ref q3to, .int th, .int he, .int ma, .int ro])), (q3fi, .inl (cI, 12, .inl fi)), (q3to, .inl (cI, 12, .inl to))] sz r0) 0 0 (va_A [(q3, .inr (3, [.ref q3fi, .ref q3to, .int th, .int he, .int ma, .int ro])), (q3fi, .inl (cI, 12, .inl fi)), (q3to, .inl (cI, 12, .inl to))] sz) := by
  refine kMi (own := RX3) (ty := .int) rfl (by decide) rfl ?_ (Nat.le_of_ble_eq_true rfl)
  intro p e s m args below meth c Q A CF hK hN hA hP hD hret ls hl
  have hS : va_S A s.heap s.heap [] := va_S.rf
  obtain ⟨hx, hb, hml, hown, hts⟩ := id CF
  have hl : lv_has ls 8 [(0, .ref q3), (1, .int v1), (2, .int v2)] := hl
  unfold m_X3_downByHorns at hs
  refine lv_iconst (v := 0) hx hb dX3_downByHorns_0 (by decide) ?_
  refine lv_istore_n (lv' := [(3, .int (0 : Int32)), (0, .ref q3), (1, .int v1), (2, .int v2)]) hx hb dX3_downByHorns_1 rfl hl (by decide) rfl (fun ls hl => ?_)
  refine lv_iconst (v := 0) hx hb dX3_downByHorns_2 (by decide) ?_
  refine lv_istore (lv' := [(4, .int (0 : Int32)), (3, .int (0 : Int32)), (0, .ref q3), (1, .int v1), (2, .int v2)]) hx hb dX3_downByHorns_3 hl (by decide) rfl (fun ls hl => ?_)
  have hL_5 : ∀ (n : Nat) (v3 : Int32) (v4 : Int32) (H : Heap) (locs : List Loc) (ls : Array Slot), va_P (dC, dI) vwCl [(q3, .inr (3, [.ref q3fi, .ref q3to, .int th, .int he, .int ma, .int ro])), (q3fi, .inl (cI, 12, .inl fi)), (q3to, .inl (cI, 12, .inl to))] H → va_D A [(q3, .inr (3, [.ref q3fi, .ref q3to, .int th, .int he, .int ma, .int ro])), (q3fi, .inl (cI, 12, .inl fi)), (q3to, .inl (cI, 12, .inl to))] → va_S A s.heap H locs → lv_has ls 8 [(0, .ref q3), (1, .int v1), (2, .int v2), (3, .int v3), (4, .int v4)] → L_X3_downByHorns_5 v1 v2 th fi to n v3 v4 = some r0 → W p l e rm_X3_downByHorns s m args below meth c H locs 0 0 Q (F0 m 5 ls []) := by
    intro n
    induction n with
    | zero =>
      intro v3 v4 H locs ls hP hD hS hl hs
      replace hs : (none : Option (Int32)) = some r0 := hs
      cases hs
    | succ n_5 ih_5 =>
      intro v3 v4 H locs ls hP hD hS hl hs
      replace hs : b_X3_downByHorns_5  (L_X3_downByHorns_5 v1 v2 th fi to n_5) v1 v2 th fi to v3 v4 = some r0 := hs
      unfold b_X3_downByHorns_5 at hs
      refine lv_iload hx hb dX3_downByHorns_5 (lv_at hl 4 rfl) ?_
      refine lv_bipush (v := 12) hx hb dX3_downByHorns_7 (by decide) ?_
      refine lv_icmp_ge (tgt := 89) hx hb dX3_downByHorns_9 (by decide) (fun c_1 => ?_) (fun c_1 => ?_)
      · replace hs := if_p c_1 hs
        refine lv_iload_n hx hb dX3_downByHorns_89 rfl (lv_at hl 3 rfl) ?_
        cases hs
        exact hret _ _ _ _ hP hD hS (vp_nar_int _) dX3_downByHorns_90
      · replace hs := if_n c_1 hs
        refine lv_aload_n hx hb dX3_downByHorns_12 rfl (lv_at hl 0 rfl) ?_
        refine va_get (D := (dC, dI)) (ci := 3) (v := .ref q3fi) (C := RX3) (T := TX3) (N := 6) hx hb hts (fun w h => kg1 (iG_3 w h)) hown hK hP 0 rfl rfl 0 (by decide) (hts _ (kg1 mG_21)) (fun _ h9 => h9) rfl dX3_downByHorns_13 ?_
        refine lv_iload hx hb dX3_downByHorns_16 (lv_at hl 4 rfl) ?_
        obtain ⟨hg_2, hs⟩ := gd_e hs
        refine kald hx hb hK hP 1 0 rfl rfl (j := (Int32.toNatClampNeg v4)) rfl (inb_e hg_2) dX3_downByHorns_18 ?_
        refine lv_istore (lv' := [(5, .int (fi (Int32.toNatClampNeg v4))), (0, .ref q3), (1, .int v1), (2, .int v2), (3, .int v3), (4, .int v4)]) hx hb dX3_downByHorns_19 hl (by decide) rfl (fun ls hl => ?_)
        refine lv_iload_n hx hb dX3_downByHorns_21 rfl (lv_at hl 2 rfl) ?_
        refine lv_istore (lv' := [(6, .int v1), (5, .int (fi (Int32.toNatClampNeg v4))), (0, .ref q3), (1, .int v1), (2, .int v2), (3, .int v3), (4, .int v4)]) hx hb dX3_downByHorns_22 hl (by decide) rfl (fun ls hl => ?_)
        refine lv_iconst (v := 0) hx hb dX3_downByHorns_24 (by decide) ?_
        refine lv_istore (lv' := [(7, .int (0 : Int32)), (6, .int v1), (5, .int (fi (Int32.toNatClampNeg v4))), (0, .ref q3), (1, .int v1), (2, .int v2), (3, .int v3), (4, .int v4)]) hx hb dX3_downByHorns_25 hl (by decide) rfl (fun ls hl => ?_)
        have hL_27 : ∀ (n : Nat) (v3 : Int32) (v4 : Int32) (v5 : Int32) (v6 : Int32) (v7 : Int32) (H : Heap) (locs : List Loc) (ls : Array Slot), va_P (dC, dI) vwCl [(q3, .inr (3, [.ref q3fi, .ref q3to, .int th, .int he, .int ma, .int ro])), (q3fi, .inl (cI, 12, .inl fi)), (q3to, .inl (cI, 12, .inl to))] H → va_D A [(q3, .inr (3, [.ref q3fi, .ref q3to, .int th, .int he, .int ma, .int ro])), (q3fi, .inl (cI, 12, .inl fi)), (q3to, .inl (cI, 12, .inl to))] → va_S A s.heap H locs → lv_has ls 8 [(0, .ref q3), (1, .int v1), (2, .int v2), (3, .int v3), (4, .int v4), (5, .int v5), (6, .int v6), (7, .int v7)] → L_X3_downByHorns_27 (L_X3_downByHorns_5 v1 v2 th fi to n_5) v2 v3 v4 th fi to n v5 v6 v7 = some r0 → W p l e rm_X3_downByHorns s m args below meth c H locs 0 0 Q (F0 m 27 ls []) := by
          intro n
          induction n with
          | zero =>
            intro v3 v4 v5 v6 v7 H locs ls hP hD hS hl hs
            replace hs : (none : Option (Int32)) = some r0 := hs
            cases hs
          | succ n_27 ih_27 =>
            intro v3 v4 v5 v6 v7 H locs ls hP hD hS hl hs
            replace hs : b_X3_downByHorns_27 (L_X3_downByHorns_5 v1 v2 th fi to n_5) (L_X3_downByHorns_27 (L_X3_downByHorns_5 v1 v2 th fi to n_5) v2 v3 v4 th fi to n_27) v2 v3 v4 th fi to v5 v6 v7 = some r0 := hs
            unfold b_X3_downByHorns_27 at hs
            refine lv_iload hx hb dX3_downByHorns_27 (lv_at hl 7 rfl) ?_
            refine lv_iload_n hx hb dX3_downByHorns_29 rfl (lv_at hl 2 rfl) ?_
            refine lv_icmp_ge (tgt := 66) hx hb dX3_downByHorns_30 (by decide) (fun c_3 => ?_) (fun c_3 => ?_)
            · replace hs := if_p c_3 hs
              refine lv_iload hx hb dX3_downByHorns_66 (lv_at hl 5 rfl) ?_
              refine lv_if_gt (tgt := 83) hx hb dX3_downByHorns_68 (by decide) (fun c_4 => ?_) (fun c_4 => ?_)
              · replace hs := if_p c_4 hs
                refine lv_iinc (v := (v4 + 1)) (lv' := [(4, .int (v4 + 1)), (0, .ref q3), (1, .int v1), (2, .int v2), (3, .int v3), (5, .int v5), (6, .int v6), (7, .int v7)]) hx hb dX3_downByHorns_83 hl (k := 4) rfl rfl (by decide) rfl (fun ls hl => ?_)
                refine lv_goto (tgt := 5) hx hb dX3_downByHorns_86 (by decide) ?_
                exact ih_5 v3 (v4 + 1) _ _ _ hP hD hS (lv_sub hl [1, 2, 3, 4, 0] rfl) hs
              · replace hs := if_n c_4 hs
                refine lv_aload_n hx hb dX3_downByHorns_71 rfl (lv_at hl 0 rfl) ?_
                refine lv_iload hx hb dX3_downByHorns_72 (lv_at hl 4 rfl) ?_
                obtain ⟨r_5, hc_6, hs⟩ := ob1_e hs
                refine kci (wr := []) (ws' := [(q3, .inr (3, [.ref q3fi, .ref q3to, .int th, .int he, .int ma, .int ro])), (q3fi, .inl (cI, 12, .inl fi)), (q3to, .inl (cI, 12, .inl to))]) (va_runV (As := [.int v4]) (rest := []) ⟨hx, hb, hml, hown, hts⟩ (k_X3_isSpared l dC dI cI cZ cS q3 q3fi q3to H.size th he ma ro fi to v4 r_5 hc_6) (cwV 1 hts (kGood (kgV mG_78 mG_79 mG_80 mG_30 mG_76)) rfl rfl rfl ⟨rfl, hd_X3_isSpared⟩ ⟨Nat.le_of_ble_eq_true rfl, Nat.le_of_ble_eq_true rfl⟩) (kpV hK hN (hP.sub (ws' := [(q3, .inr (3, [.ref q3fi, .ref q3to, .int th, .int he, .int ma, .int ro])), (q3fi, .inl (cI, 12, .inl fi)), (q3to, .inl (cI, 12, .inl to))]) [0, 1, 2] rfl) (hD.sub (ws' := [(q3, .inr (3, [.ref q3fi, .ref q3to, .int th, .int he, .int ma, .int ro])), (q3fi, .inl (cI, 12, .inl fi)), (q3to, .inl (cI, 12, .inl to))]) [0, 1, 2] rfl rfl) rfl rfl rfl) rfl rfl hl.1 rfl (lv_room (Nat.le_of_ble_eq_true rfl)) dX3_downByHorns_74 ⟨Nat.zero_le _, Nat.zero_le _⟩) hP hD hS hA [0, 1, 2] [] [0, 1, 2] rfl rfl rfl (by decide) rfl rfl (fun H locs hP hD hS => ?_)
                refine lv_if_ne (tgt := 83) hx hb dX3_downByHorns_77 (by decide) (fun c_7 => ?_) (fun c_7 => ?_)
                · replace hs := if_n c_7 hs
                  refine lv_iinc (v := (v4 + 1)) (lv' := [(4, .int (v4 + 1)), (0, .ref q3), (1, .int v1), (2, .int v2), (3, .int v3), (5, .int v5), (6, .int v6), (7, .int v7)]) hx hb dX3_downByHorns_83 hl (k := 4) rfl rfl (by decide) rfl (fun ls hl => ?_)
                  refine lv_goto (tgt := 5) hx hb dX3_downByHorns_86 (by decide) ?_
                  exact ih_5 v3 (v4 + 1) _ _ _ hP hD hS (lv_sub hl [1, 2, 3, 4, 0] rfl) hs
                · replace hs := if_p c_7 hs
                  refine lv_iinc (v := (v3 + 1)) (lv' := [(3, .int (v3 + 1)), (0, .ref q3), (1, .int v1), (2, .int v2), (4, .int v4), (5, .int v5), (6, .int v6), (7, .int v7)]) hx hb dX3_downByHorns_80 hl (k := 3) rfl rfl (by decide) rfl (fun ls hl => ?_)
                  refine lv_iinc (v := (v4 + 1)) (lv' := [(4, .int (v4 + 1)), (3, .int (v3 + 1)), (0, .ref q3), (1, .int v1), (2, .int v2), (5, .int v5), (6, .int v6), (7, .int v7)]) hx hb dX3_downByHorns_83 hl (k := 4) rfl rfl (by decide) rfl (fun ls hl => ?_)
                  refine lv_goto (tgt := 5) hx hb dX3_downByHorns_86 (by decide) ?_
                  exact ih_5 (v3 + 1) (v4 + 1) _ _ _ hP hD hS (lv_sub hl [2, 3, 4, 1, 0] rfl) hs
            · replace hs := if_n c_3 hs
              refine lv_iload hx hb dX3_downByHorns_33 (lv_at hl 5 rfl) ?_
              refine lv_iload hx hb dX3_downByHorns_35 (lv_at hl 6 rfl) ?_
              refine lv_bipush (v := 10) hx hb dX3_downByHorns_37 (by decide) ?_
              refine lv_irem hx hb dX3_downByHorns_39 (by decide) ?_
              refine lv_aload_n hx hb dX3_downByHorns_40 rfl (lv_at hl 0 rfl) ?_
              refine va_get (D := (dC, dI)) (ci := 3) (v := .ref q3to) (C := RX3) (T := TX3) (N := 6) hx hb hts (fun w h => kg1 (iG_3 w h)) hown hK hP 0 rfl rfl 1 (by decide) (hts _ (kg1 mG_22)) (fun _ h9 => h9) rfl dX3_downByHorns_41 ?_
              refine lv_iload hx hb dX3_downByHorns_44 (lv_at hl 4 rfl) ?_
              obtain ⟨hg_8, hs⟩ := gd_e hs
              refine kald hx hb hK hP 2 0 rfl rfl (j := (Int32.toNatClampNeg v4)) rfl (inb_e hg_8) dX3_downByHorns_46 ?_
              refine kpi (va_runSN (As := [.int (irem v6 (10 : Int32)), .int (to (Int32.toNatClampNeg v4))]) (rest := [.int v5]) ⟨hx, hb, hml, hown, hts⟩ (k_X4_echo l (irem v6 (10 : Int32)) (to (Int32.toNatClampNeg v4)) _ rfl) ⟨va_cnB 2 hts (kGood (kgs mG_81)) rfl rfl rfl hN.2.2.2.1 (hts _ (kg1 mG_13)) hd_X4_echo ⟨Nat.le_of_ble_eq_true rfl, Nat.le_of_ble_eq_true rfl⟩, hts _ (kg1 mG_90), trivial⟩ preEq rfl rfl hl.1 rfl (lv_room (Nat.le_of_ble_eq_true rfl)) dX3_downByHorns_47 ⟨Nat.zero_le _, Nat.zero_le _⟩) ?_
              refine lv_isub hx hb dX3_downByHorns_50 ?_
              refine lv_topi (fun w_9 ew_9 => ?_)
              replace hs := bnd_e ew_9 hs
              refine lv_istore (lv' := [(5, .int w_9), (0, .ref q3), (1, .int v1), (2, .int v2), (3, .int v3), (4, .int v4), (6, .int v6), (7, .int v7)]) hx hb dX3_downByHorns_51 hl (by decide) rfl (fun ls hl => ?_)
              refine lv_iload hx hb dX3_downByHorns_53 (lv_at hl 6 rfl) ?_
              refine lv_bipush (v := 10) hx hb dX3_downByHorns_55 (by decide) ?_
              refine lv_idiv hx hb dX3_downByHorns_57 (by decide) ?_
              refine lv_istore (lv' := [(6, .int (v6 / (10 : Int32))), (5, .int w_9), (0, .ref q3), (1, .int v1), (2, .int v2), (3, .int v3), (4, .int v4), (7, .int v7)]) hx hb dX3_downByHorns_58 hl (by decide) rfl (fun ls hl => ?_)
              refine lv_iinc (v := (v7 + 1)) (lv' := [(7, .int (v7 + 1)), (6, .int (v6 / (10 : Int32))), (5, .int w_9), (0, .ref q3), (1, .int v1), (2, .int v2), (3, .int v3), (4, .int v4)]) hx hb dX3_downByHorns_60 hl (k := 7) rfl rfl (by decide) rfl (fun ls hl => ?_)
              refine lv_goto (tgt := 27) hx hb dX3_downByHorns_63 (by decide) ?_
              exact ih_27 v3 v4 w_9 (v6 / (10 : Int32)) (v7 + 1) _ _ _ hP hD hS (lv_sub hl [3, 4, 5, 6, 7, 2, 1, 0] rfl) hs
        exact hL_27 fu v3 v4 (fi (Int32.toNatClampNeg v4)) v1 (0 : Int32) _ _ _ hP hD hS (lv_sub hl [3, 4, 5, 6, 7, 2, 1, 0] rfl) hs
  exact hL_5 fu (0 : Int32) (0 : Int32) _ _ _ hP hD hS (lv_sub hl [2, 3, 4, 1, 0] rfl) hs
abbrev rm_X3_bestHorns : Room := { frames := 2, cells := 0, slots := 0, locals := 49 }
theorem hd_X3_bestHorns : yX3_bestHorns.cls ≠ "java/lang/invoke/MethodHandle" ∧ yX3_bestHorns.cls ≠ "java/lang/invoke/VarHandle" ∧ (parseMethodDescriptor yX3_bestHorns.desc).map (fun d => d.parameters.length) = some 1 := by decide +kernel
set_option maxHeartbeats 4000000 in
set_option maxRecDepth 100000 in
theorem k_X3_bestHorns (l : Launch) (dC : Nat → ClassId) (dI : Nat → Nat → Nat) (cI cZ cS : ClassId) (q3 q3fi q3to : Nat) (sz : Nat) (th : Int32) (he : Int32) (ma : Int32) (ro : Int32) (fi : Ar) (to : Ar) (v1 : Int32) (r0 : Int32) (hs : m_X3_bestHorns v1 th fi to = some r0) : Met l yX3_bestHorns (.code yX3_bestHorns cX3_bestHorns 7 (some .int) :: kG) rm_X3_bestHorns (va_Pc [.ref q3, .int v1] (kW (dC, dI) cI cZ cS [(q3, .inr (3, [.ref q3fi, .ref q3to, .int th, .int he, .int ma, .int ro])), (q3fi, .inl (cI, 12, .inl fi)), (q3to, .inl (cI, 12, .inl to))] sz)) (kQi (dC, dI) [(q3, .inr (3, [.ref q3fi, .ref q3to, .int th, .int he, .int ma, .int ro])), (q3fi, .inl (cI, 12, .inl fi)), (q3to, .inl (cI, 12, .inl to))] [(q3, .inr (3, [.ref q3fi, .ref q3to, .int th, .int he, .int ma, .int ro])), (q3fi, .inl (cI, 12, .inl fi)), (q3to, .inl (cI, 12, .inl to))] sz r0) 0 0 (va_A [(q3, .inr (3, [.ref q3fi, .ref q3to, .int th, .int he, .int ma, .int ro])), (q3fi, .inl (cI, 12, .inl fi)), (q3to, .inl (cI, 12, .inl to))] sz) := by
  refine kMi (own := RX3) (ty := .int) rfl (by decide) rfl ?_ (Nat.le_of_ble_eq_true rfl)
  intro p e s m args below meth c Q A CF hK hN hA hP hD hret ls hl
  have hS : va_S A s.heap s.heap [] := va_S.rf
  obtain ⟨hx, hb, hml, hown, hts⟩ := id CF
  have hl : lv_has ls 7 [(0, .ref q3), (1, .int v1)] := hl
  unfold m_X3_bestHorns at hs
  refine lv_iconst (v := 0) hx hb dX3_bestHorns_0 (by decide) ?_
  refine lv_istore_n (lv' := [(2, .int (0 : Int32)), (0, .ref q3), (1, .int v1)]) hx hb dX3_bestHorns_1 rfl hl (by decide) rfl (fun ls hl => ?_)
  refine lv_aload_n hx hb dX3_bestHorns_2 rfl (lv_at hl 1 rfl) ?_
  refine lv_iconst (v := 0) hx hb dX3_bestHorns_3 (by decide) ?_
  refine lv_iload_n hx hb dX3_bestHorns_4 rfl (lv_at hl 2 rfl) ?_
  obtain ⟨r_1, hc_2, hs⟩ := ob1_e hs
  refine kci (wr := []) (ws' := [(q3, .inr (3, [.ref q3fi, .ref q3to, .int th, .int he, .int ma, .int ro])), (q3fi, .inl (cI, 12, .inl fi)), (q3to, .inl (cI, 12, .inl to))]) (va_runV (As := [.int (0 : Int32), .int v1]) (rest := []) ⟨hx, hb, hml, hown, hts⟩ (k_X3_downByHorns l dC dI cI cZ cS q3 q3fi q3to s.heap.size th he ma ro fi to (0 : Int32) v1 r_1 hc_2) (cwV 2 hts (kGood (kgV mG_157 mG_158 mG_159 mG_30 mG_153)) rfl rfl rfl ⟨rfl, hd_X3_downByHorns⟩ ⟨Nat.le_of_ble_eq_true rfl, Nat.le_of_ble_eq_true rfl⟩) (kpV hK hN (hP.sub (ws' := [(q3, .inr (3, [.ref q3fi, .ref q3to, .int th, .int he, .int ma, .int ro])), (q3fi, .inl (cI, 12, .inl fi)), (q3to, .inl (cI, 12, .inl to))]) [0, 1, 2] rfl) (hD.sub (ws' := [(q3, .inr (3, [.ref q3fi, .ref q3to, .int th, .int he, .int ma, .int ro])), (q3fi, .inl (cI, 12, .inl fi)), (q3to, .inl (cI, 12, .inl to))]) [0, 1, 2] rfl rfl) rfl rfl rfl) rfl rfl hl.1 rfl (lv_room (Nat.le_of_ble_eq_true rfl)) dX3_bestHorns_5 ⟨Nat.zero_le _, Nat.zero_le _⟩) hP hD hS hA [0, 1, 2] [] [0, 1, 2] rfl rfl rfl (by decide) rfl rfl (fun H locs hP hD hS => ?_)
  refine lv_istore_n (lv' := [(3, .int r_1), (2, .int (0 : Int32)), (0, .ref q3), (1, .int v1)]) hx hb dX3_bestHorns_8 rfl hl (by decide) rfl (fun ls hl => ?_)
  refine lv_iload_n hx hb dX3_bestHorns_9 rfl (lv_at hl 3 rfl) ?_
  obtain ⟨r_3, hc_4, hs⟩ := ob1_e hs
  refine kpi (va_runSN (As := [.int v1]) (rest := []) ⟨hx, hb, hml, hown, hts⟩ (k_X4_powerOfTen l v1 r_3 hc_4) ⟨va_cnB 1 hts (kGood (kgs mG_154)) rfl rfl rfl hN.2.2.2.2.1 (hts _ (kg1 mG_13)) hd_X4_powerOfTen ⟨Nat.le_of_ble_eq_true rfl, Nat.le_of_ble_eq_true rfl⟩, hts _ (kg1 mG_160), trivial⟩ preEq rfl rfl hl.1 rfl (lv_room (Nat.le_of_ble_eq_true rfl)) dX3_bestHorns_10 ⟨Nat.zero_le _, Nat.zero_le _⟩) ?_
  refine lv_istore (lv' := [(4, .int r_3), (3, .int r_1), (2, .int (0 : Int32)), (0, .ref q3), (1, .int v1)]) hx hb dX3_bestHorns_13 hl (by decide) rfl (fun ls hl => ?_)
  refine lv_iconst (v := 1) hx hb dX3_bestHorns_15 (by decide) ?_
  refine lv_istore (lv' := [(5, .int (1 : Int32)), (4, .int r_3), (3, .int r_1), (2, .int (0 : Int32)), (0, .ref q3), (1, .int v1)]) hx hb dX3_bestHorns_16 hl (by decide) rfl (fun ls hl => ?_)
  have hL_18 : ∀ (n : Nat) (v2 : Int32) (v3 : Int32) (v4 : Int32) (v5 : Int32) (H : Heap) (locs : List Loc) (ls : Array Slot), va_P (dC, dI) vwCl [(q3, .inr (3, [.ref q3fi, .ref q3to, .int th, .int he, .int ma, .int ro])), (q3fi, .inl (cI, 12, .inl fi)), (q3to, .inl (cI, 12, .inl to))] H → va_D A [(q3, .inr (3, [.ref q3fi, .ref q3to, .int th, .int he, .int ma, .int ro])), (q3fi, .inl (cI, 12, .inl fi)), (q3to, .inl (cI, 12, .inl to))] → va_S A s.heap H locs → lv_has ls 7 [(0, .ref q3), (1, .int v1), (2, .int v2), (3, .int v3), (4, .int v4), (5, .int v5)] → L_X3_bestHorns_18 v1 v4 th fi to n v2 v3 v5 = some r0 → W p l e rm_X3_bestHorns s m args below meth c H locs 0 0 Q (F0 m 18 ls []) := by
    intro n
    induction n with
    | zero =>
      intro v2 v3 v4 v5 H locs ls hP hD hS hl hs
      replace hs : (none : Option (Int32)) = some r0 := hs
      cases hs
    | succ n_18 ih_18 =>
      intro v2 v3 v4 v5 H locs ls hP hD hS hl hs
      replace hs : b_X3_bestHorns_18  (L_X3_bestHorns_18 v1 v4 th fi to n_18) v1 v4 th fi to v2 v3 v5 = some r0 := hs
      unfold b_X3_bestHorns_18 at hs
      refine lv_iload hx hb dX3_bestHorns_18 (lv_at hl 5 rfl) ?_
      refine lv_iload hx hb dX3_bestHorns_20 (lv_at hl 4 rfl) ?_
      refine lv_icmp_ge (tgt := 60) hx hb dX3_bestHorns_22 (by decide) (fun c_5 => ?_) (fun c_5 => ?_)
      · replace hs := if_p c_5 hs
        refine lv_iload_n hx hb dX3_bestHorns_60 rfl (lv_at hl 2 rfl) ?_
        cases hs
        exact hret _ _ _ _ hP hD hS (vp_nar_int _) dX3_bestHorns_61
      · replace hs := if_n c_5 hs
        refine lv_iload hx hb dX3_bestHorns_25 (lv_at hl 5 rfl) ?_
        obtain ⟨r_6, hc_7, hs⟩ := ob1_e hs
        refine kpi (va_runS (As := [.int v5]) (rest := []) ⟨hx, hb, hml, hown, hts⟩ (k_X3_neverGoesDown l v5 r_6 hc_7) (va_cwS 1 hts (kGood (kgS mG_161 mG_162 mG_30 mG_155)) rfl rfl rfl hd_X3_neverGoesDown ⟨Nat.le_of_ble_eq_true rfl, Nat.le_of_ble_eq_true rfl⟩) preEq rfl rfl hl.1 rfl (lv_room (Nat.le_of_ble_eq_true rfl)) dX3_bestHorns_27 ⟨Nat.zero_le _, Nat.zero_le _⟩) ?_
        refine lv_if_eq (tgt := 54) hx hb dX3_bestHorns_30 (by decide) (fun c_8 => ?_) (fun c_8 => ?_)
        · replace hs := if_p c_8 hs
          refine lv_iinc (v := (v5 + 1)) (lv' := [(5, .int (v5 + 1)), (0, .ref q3), (1, .int v1), (2, .int v2), (3, .int v3), (4, .int v4)]) hx hb dX3_bestHorns_54 hl (k := 5) rfl rfl (by decide) rfl (fun ls hl => ?_)
          refine lv_goto (tgt := 18) hx hb dX3_bestHorns_57 (by decide) ?_
          exact ih_18 v2 v3 v4 (v5 + 1) _ _ _ hP hD hS (lv_sub hl [1, 2, 3, 4, 5, 0] rfl) hs
        · replace hs := if_n c_8 hs
          refine lv_aload_n hx hb dX3_bestHorns_33 rfl (lv_at hl 0 rfl) ?_
          refine lv_iload hx hb dX3_bestHorns_34 (lv_at hl 5 rfl) ?_
          refine lv_iload_n hx hb dX3_bestHorns_36 rfl (lv_at hl 1 rfl) ?_
          obtain ⟨r_9, hc_10, hs⟩ := ob1_e hs
          refine kci (wr := []) (ws' := [(q3, .inr (3, [.ref q3fi, .ref q3to, .int th, .int he, .int ma, .int ro])), (q3fi, .inl (cI, 12, .inl fi)), (q3to, .inl (cI, 12, .inl to))]) (va_runV (As := [.int v5, .int v1]) (rest := []) ⟨hx, hb, hml, hown, hts⟩ (k_X3_downByHorns l dC dI cI cZ cS q3 q3fi q3to H.size th he ma ro fi to v5 v1 r_9 hc_10) (cwV 2 hts (kGood (kgV mG_157 mG_158 mG_159 mG_30 mG_153)) rfl rfl rfl ⟨rfl, hd_X3_downByHorns⟩ ⟨Nat.le_of_ble_eq_true rfl, Nat.le_of_ble_eq_true rfl⟩) (kpV hK hN (hP.sub (ws' := [(q3, .inr (3, [.ref q3fi, .ref q3to, .int th, .int he, .int ma, .int ro])), (q3fi, .inl (cI, 12, .inl fi)), (q3to, .inl (cI, 12, .inl to))]) [0, 1, 2] rfl) (hD.sub (ws' := [(q3, .inr (3, [.ref q3fi, .ref q3to, .int th, .int he, .int ma, .int ro])), (q3fi, .inl (cI, 12, .inl fi)), (q3to, .inl (cI, 12, .inl to))]) [0, 1, 2] rfl rfl) rfl rfl rfl) rfl rfl hl.1 rfl (lv_room (Nat.le_of_ble_eq_true rfl)) dX3_bestHorns_37 ⟨Nat.zero_le _, Nat.zero_le _⟩) hP hD hS hA [0, 1, 2] [] [0, 1, 2] rfl rfl rfl (by decide) rfl rfl (fun H locs hP hD hS => ?_)
          refine lv_istore (lv' := [(6, .int r_9), (0, .ref q3), (1, .int v1), (2, .int v2), (3, .int v3), (4, .int v4), (5, .int v5)]) hx hb dX3_bestHorns_40 hl (by decide) rfl (fun ls hl => ?_)
          refine lv_iload hx hb dX3_bestHorns_42 (lv_at hl 0 rfl) ?_
          refine lv_iload_n hx hb dX3_bestHorns_44 rfl (lv_at hl 4 rfl) ?_
          refine lv_icmp_le (tgt := 54) hx hb dX3_bestHorns_45 (by decide) (fun c_11 => ?_) (fun c_11 => ?_)
          · replace hs := if_p c_11 hs
            refine lv_iinc (v := (v5 + 1)) (lv' := [(5, .int (v5 + 1)), (6, .int r_9), (0, .ref q3), (1, .int v1), (2, .int v2), (3, .int v3), (4, .int v4)]) hx hb dX3_bestHorns_54 hl (k := 6) rfl rfl (by decide) rfl (fun ls hl => ?_)
            refine lv_goto (tgt := 18) hx hb dX3_bestHorns_57 (by decide) ?_
            exact ih_18 v2 v3 v4 (v5 + 1) _ _ _ hP hD hS (lv_sub hl [2, 3, 4, 5, 6, 0] rfl) hs
          · replace hs := if_n c_11 hs
            refine lv_iload hx hb dX3_bestHorns_48 (lv_at hl 6 rfl) ?_
            refine lv_istore_n (lv' := [(2, .int v5), (6, .int r_9), (0, .ref q3), (1, .int v1), (3, .int v3), (4, .int v4), (5, .int v5)]) hx hb dX3_bestHorns_50 rfl hl (by decide) rfl (fun ls hl => ?_)
            refine lv_iload hx hb dX3_bestHorns_51 (lv_at hl 1 rfl) ?_
            refine lv_istore_n (lv' := [(3, .int r_9), (2, .int v5), (6, .int r_9), (0, .ref q3), (1, .int v1), (4, .int v4), (5, .int v5)]) hx hb dX3_bestHorns_53 rfl hl (by decide) rfl (fun ls hl => ?_)
            refine lv_iinc (v := (v5 + 1)) (lv' := [(5, .int (v5 + 1)), (3, .int r_9), (2, .int v5), (6, .int r_9), (0, .ref q3), (1, .int v1), (4, .int v4)]) hx hb dX3_bestHorns_54 hl (k := 6) rfl rfl (by decide) rfl (fun ls hl => ?_)
            refine lv_goto (tgt := 18) hx hb dX3_bestHorns_57 (by decide) ?_
            exact ih_18 v5 r_9 v4 (v5 + 1) _ _ _ hP hD hS (lv_sub hl [4, 5, 2, 1, 6, 0] rfl) hs
  exact hL_18 fu (0 : Int32) r_1 r_3 (1 : Int32) _ _ _ hP hD hS (lv_sub hl [4, 5, 3, 2, 1, 0] rfl) hs
abbrev rm_X3_firmTogether : Room := { frames := 0, cells := 0, slots := 0, locals := 0 }
theorem hd_X3_firmTogether : yX3_firmTogether.cls ≠ "java/lang/invoke/MethodHandle" ∧ yX3_firmTogether.cls ≠ "java/lang/invoke/VarHandle" ∧ (parseMethodDescriptor yX3_firmTogether.desc).map (fun d => d.parameters.length) = some 2 := by decide +kernel
set_option maxHeartbeats 4000000 in
set_option maxRecDepth 100000 in
theorem k_X3_firmTogether (l : Launch) (dC : Nat → ClassId) (dI : Nat → Nat → Nat) (cI cZ cS : ClassId) (q3 q3fi q3to : Nat) (sz : Nat) (th : Int32) (he : Int32) (ma : Int32) (ro : Int32) (fi : Ar) (to : Ar) (v1 : Int32) (v2 : Int32) (r0 : Int32) (hs : m_X3_firmTogether v1 v2 fi = some r0) : Met l yX3_firmTogether (.code yX3_firmTogether cX3_firmTogether 5 (some .int) :: kG) rm_X3_firmTogether (va_Pc [.ref q3, .int v1, .int v2] (kW (dC, dI) cI cZ cS [(q3, .inr (3, [.ref q3fi, .ref q3to, .int th, .int he, .int ma, .int ro])), (q3fi, .inl (cI, 12, .inl fi)), (q3to, .inl (cI, 12, .inl to))] sz)) (kQi (dC, dI) [(q3, .inr (3, [.ref q3fi, .ref q3to, .int th, .int he, .int ma, .int ro])), (q3fi, .inl (cI, 12, .inl fi)), (q3to, .inl (cI, 12, .inl to))] [(q3, .inr (3, [.ref q3fi, .ref q3to, .int th, .int he, .int ma, .int ro])), (q3fi, .inl (cI, 12, .inl fi)), (q3to, .inl (cI, 12, .inl to))] sz r0) 0 0 (va_A [(q3, .inr (3, [.ref q3fi, .ref q3to, .int th, .int he, .int ma, .int ro])), (q3fi, .inl (cI, 12, .inl fi)), (q3to, .inl (cI, 12, .inl to))] sz) := by
  refine kMi (own := RX3) (ty := .int) rfl (by decide) rfl ?_ (Nat.le_of_ble_eq_true rfl)
  intro p e s m args below meth c Q A CF hK hN hA hP hD hret ls hl
  have hS : va_S A s.heap s.heap [] := va_S.rf
  obtain ⟨hx, hb, hml, hown, hts⟩ := id CF
  have hl : lv_has ls 5 [(0, .ref q3), (1, .int v1), (2, .int v2)] := hl
  unfold m_X3_firmTogether at hs
  refine lv_iconst (v := 0) hx hb dX3_firmTogether_0 (by decide) ?_
  refine lv_istore_n (lv' := [(3, .int (0 : Int32)), (0, .ref q3), (1, .int v1), (2, .int v2)]) hx hb dX3_firmTogether_1 rfl hl (by decide) rfl (fun ls hl => ?_)
  refine lv_iconst (v := 0) hx hb dX3_firmTogether_2 (by decide) ?_
  refine lv_istore (lv' := [(4, .int (0 : Int32)), (3, .int (0 : Int32)), (0, .ref q3), (1, .int v1), (2, .int v2)]) hx hb dX3_firmTogether_3 hl (by decide) rfl (fun ls hl => ?_)
  have hL_5 : ∀ (n : Nat) (v3 : Int32) (v4 : Int32) (H : Heap) (locs : List Loc) (ls : Array Slot), va_P (dC, dI) vwCl [(q3, .inr (3, [.ref q3fi, .ref q3to, .int th, .int he, .int ma, .int ro])), (q3fi, .inl (cI, 12, .inl fi)), (q3to, .inl (cI, 12, .inl to))] H → va_D A [(q3, .inr (3, [.ref q3fi, .ref q3to, .int th, .int he, .int ma, .int ro])), (q3fi, .inl (cI, 12, .inl fi)), (q3to, .inl (cI, 12, .inl to))] → va_S A s.heap H locs → lv_has ls 5 [(0, .ref q3), (1, .int v1), (2, .int v2), (3, .int v3), (4, .int v4)] → L_X3_firmTogether_5 v1 v2 fi n v3 v4 = some r0 → W p l e rm_X3_firmTogether s m args below meth c H locs 0 0 Q (F0 m 5 ls []) := by
    intro n
    induction n with
    | zero =>
      intro v3 v4 H locs ls hP hD hS hl hs
      replace hs : (none : Option (Int32)) = some r0 := hs
      cases hs
    | succ n_5 ih_5 =>
      intro v3 v4 H locs ls hP hD hS hl hs
      replace hs : b_X3_firmTogether_5  (L_X3_firmTogether_5 v1 v2 fi n_5) v1 v2 fi v3 v4 = some r0 := hs
      unfold b_X3_firmTogether_5 at hs
      refine lv_iload hx hb dX3_firmTogether_5 (lv_at hl 4 rfl) ?_
      refine lv_iload_n hx hb dX3_firmTogether_7 rfl (lv_at hl 2 rfl) ?_
      refine lv_icmp_ge (tgt := 32) hx hb dX3_firmTogether_8 (by decide) (fun c_1 => ?_) (fun c_1 => ?_)
      · replace hs := if_p c_1 hs
        refine lv_iload_n hx hb dX3_firmTogether_32 rfl (lv_at hl 3 rfl) ?_
        cases hs
        exact hret _ _ _ _ hP hD hS (vp_nar_int _) dX3_firmTogether_33
      · replace hs := if_n c_1 hs
        refine lv_iload_n hx hb dX3_firmTogether_11 rfl (lv_at hl 3 rfl) ?_
        refine lv_aload_n hx hb dX3_firmTogether_12 rfl (lv_at hl 0 rfl) ?_
        refine va_get (D := (dC, dI)) (ci := 3) (v := .ref q3fi) (C := RX3) (T := TX3) (N := 6) hx hb hts (fun w h => kg1 (iG_3 w h)) hown hK hP 0 rfl rfl 0 (by decide) (hts _ (kg1 mG_21)) (fun _ h9 => h9) rfl dX3_firmTogether_13 ?_
        refine lv_iload_n hx hb dX3_firmTogether_16 rfl (lv_at hl 1 rfl) ?_
        refine lv_iload hx hb dX3_firmTogether_17 (lv_at hl 4 rfl) ?_
        refine lv_iadd hx hb dX3_firmTogether_19 ?_
        refine lv_bipush (v := 12) hx hb dX3_firmTogether_20 (by decide) ?_
        refine lv_irem hx hb dX3_firmTogether_22 (by decide) ?_
        obtain ⟨hg_2, hs⟩ := gd_e hs
        refine kald hx hb hK hP 1 0 rfl rfl (j := (Int32.toNatClampNeg (irem (v1 + v4) (12 : Int32)))) rfl (inb_e hg_2) dX3_firmTogether_23 ?_
        refine lv_iadd hx hb dX3_firmTogether_24 ?_
        refine lv_istore_n (lv' := [(3, .int (v3 + (fi (Int32.toNatClampNeg (irem (v1 + v4) (12 : Int32)))))), (0, .ref q3), (1, .int v1), (2, .int v2), (4, .int v4)]) hx hb dX3_firmTogether_25 rfl hl (by decide) rfl (fun ls hl => ?_)
        refine lv_iinc (v := (v4 + 1)) (lv' := [(4, .int (v4 + 1)), (3, .int (v3 + (fi (Int32.toNatClampNeg (irem (v1 + v4) (12 : Int32)))))), (0, .ref q3), (1, .int v1), (2, .int v2)]) hx hb dX3_firmTogether_26 hl (k := 4) rfl rfl (by decide) rfl (fun ls hl => ?_)
        refine lv_goto (tgt := 5) hx hb dX3_firmTogether_29 (by decide) ?_
        exact ih_5 (v3 + (fi (Int32.toNatClampNeg (irem (v1 + v4) (12 : Int32))))) (v4 + 1) _ _ _ hP hD hS (lv_sub hl [2, 3, 4, 1, 0] rfl) hs
  exact hL_5 fu (0 : Int32) (0 : Int32) _ _ _ hP hD hS (lv_sub hl [2, 3, 4, 1, 0] rfl) hs
abbrev rm_X3_weakestStretch : Room := { frames := 1, cells := 0, slots := 0, locals := 24 }
theorem hd_X3_weakestStretch : yX3_weakestStretch.cls ≠ "java/lang/invoke/MethodHandle" ∧ yX3_weakestStretch.cls ≠ "java/lang/invoke/VarHandle" ∧ (parseMethodDescriptor yX3_weakestStretch.desc).map (fun d => d.parameters.length) = some 1 := by decide +kernel
set_option maxHeartbeats 4000000 in
set_option maxRecDepth 100000 in
theorem k_X3_weakestStretch (l : Launch) (dC : Nat → ClassId) (dI : Nat → Nat → Nat) (cI cZ cS : ClassId) (q3 q3fi q3to : Nat) (sz : Nat) (th : Int32) (he : Int32) (ma : Int32) (ro : Int32) (fi : Ar) (to : Ar) (v1 : Int32) (r0 : Int32) (hs : m_X3_weakestStretch v1 fi = some r0) : Met l yX3_weakestStretch (.code yX3_weakestStretch cX3_weakestStretch 6 (some .int) :: kG) rm_X3_weakestStretch (va_Pc [.ref q3, .int v1] (kW (dC, dI) cI cZ cS [(q3, .inr (3, [.ref q3fi, .ref q3to, .int th, .int he, .int ma, .int ro])), (q3fi, .inl (cI, 12, .inl fi)), (q3to, .inl (cI, 12, .inl to))] sz)) (kQi (dC, dI) [(q3, .inr (3, [.ref q3fi, .ref q3to, .int th, .int he, .int ma, .int ro])), (q3fi, .inl (cI, 12, .inl fi)), (q3to, .inl (cI, 12, .inl to))] [(q3, .inr (3, [.ref q3fi, .ref q3to, .int th, .int he, .int ma, .int ro])), (q3fi, .inl (cI, 12, .inl fi)), (q3to, .inl (cI, 12, .inl to))] sz r0) 0 0 (va_A [(q3, .inr (3, [.ref q3fi, .ref q3to, .int th, .int he, .int ma, .int ro])), (q3fi, .inl (cI, 12, .inl fi)), (q3to, .inl (cI, 12, .inl to))] sz) := by
  refine kMi (own := RX3) (ty := .int) rfl (by decide) rfl ?_ (Nat.le_of_ble_eq_true rfl)
  intro p e s m args below meth c Q A CF hK hN hA hP hD hret ls hl
  have hS : va_S A s.heap s.heap [] := va_S.rf
  obtain ⟨hx, hb, hml, hown, hts⟩ := id CF
  have hl : lv_has ls 6 [(0, .ref q3), (1, .int v1)] := hl
  unfold m_X3_weakestStretch at hs
  refine lv_iconst (v := 0) hx hb dX3_weakestStretch_0 (by decide) ?_
  refine lv_istore_n (lv' := [(2, .int (0 : Int32)), (0, .ref q3), (1, .int v1)]) hx hb dX3_weakestStretch_1 rfl hl (by decide) rfl (fun ls hl => ?_)
  refine lv_aload_n hx hb dX3_weakestStretch_2 rfl (lv_at hl 1 rfl) ?_
  refine lv_iconst (v := 0) hx hb dX3_weakestStretch_3 (by decide) ?_
  refine lv_iload_n hx hb dX3_weakestStretch_4 rfl (lv_at hl 2 rfl) ?_
  obtain ⟨r_1, hc_2, hs⟩ := ob1_e hs
  refine kci (wr := []) (ws' := [(q3, .inr (3, [.ref q3fi, .ref q3to, .int th, .int he, .int ma, .int ro])), (q3fi, .inl (cI, 12, .inl fi)), (q3to, .inl (cI, 12, .inl to))]) (va_runV (As := [.int (0 : Int32), .int v1]) (rest := []) ⟨hx, hb, hml, hown, hts⟩ (k_X3_firmTogether l dC dI cI cZ cS q3 q3fi q3to s.heap.size th he ma ro fi to (0 : Int32) v1 r_1 hc_2) (cwV 2 hts (kGood (kgV mG_165 mG_166 mG_167 mG_30 mG_163)) rfl rfl rfl ⟨rfl, hd_X3_firmTogether⟩ ⟨Nat.le_of_ble_eq_true rfl, Nat.le_of_ble_eq_true rfl⟩) (kpV hK hN (hP.sub (ws' := [(q3, .inr (3, [.ref q3fi, .ref q3to, .int th, .int he, .int ma, .int ro])), (q3fi, .inl (cI, 12, .inl fi)), (q3to, .inl (cI, 12, .inl to))]) [0, 1, 2] rfl) (hD.sub (ws' := [(q3, .inr (3, [.ref q3fi, .ref q3to, .int th, .int he, .int ma, .int ro])), (q3fi, .inl (cI, 12, .inl fi)), (q3to, .inl (cI, 12, .inl to))]) [0, 1, 2] rfl rfl) rfl rfl rfl) rfl rfl hl.1 rfl (lv_room (Nat.le_of_ble_eq_true rfl)) dX3_weakestStretch_5 ⟨Nat.zero_le _, Nat.zero_le _⟩) hP hD hS hA [0, 1, 2] [] [0, 1, 2] rfl rfl rfl (by decide) rfl rfl (fun H locs hP hD hS => ?_)
  refine lv_istore_n (lv' := [(3, .int r_1), (2, .int (0 : Int32)), (0, .ref q3), (1, .int v1)]) hx hb dX3_weakestStretch_8 rfl hl (by decide) rfl (fun ls hl => ?_)
  refine lv_iconst (v := 1) hx hb dX3_weakestStretch_9 (by decide) ?_
  refine lv_istore (lv' := [(4, .int (1 : Int32)), (3, .int r_1), (2, .int (0 : Int32)), (0, .ref q3), (1, .int v1)]) hx hb dX3_weakestStretch_10 hl (by decide) rfl (fun ls hl => ?_)
  have hL_12 : ∀ (n : Nat) (v2 : Int32) (v3 : Int32) (v4 : Int32) (H : Heap) (locs : List Loc) (ls : Array Slot), va_P (dC, dI) vwCl [(q3, .inr (3, [.ref q3fi, .ref q3to, .int th, .int he, .int ma, .int ro])), (q3fi, .inl (cI, 12, .inl fi)), (q3to, .inl (cI, 12, .inl to))] H → va_D A [(q3, .inr (3, [.ref q3fi, .ref q3to, .int th, .int he, .int ma, .int ro])), (q3fi, .inl (cI, 12, .inl fi)), (q3to, .inl (cI, 12, .inl to))] → va_S A s.heap H locs → lv_has ls 6 [(0, .ref q3), (1, .int v1), (2, .int v2), (3, .int v3), (4, .int v4)] → L_X3_weakestStretch_12 v1 fi n v2 v3 v4 = some r0 → W p l e rm_X3_weakestStretch s m args below meth c H locs 0 0 Q (F0 m 12 ls []) := by
    intro n
    induction n with
    | zero =>
      intro v2 v3 v4 H locs ls hP hD hS hl hs
      replace hs : (none : Option (Int32)) = some r0 := hs
      cases hs
    | succ n_12 ih_12 =>
      intro v2 v3 v4 H locs ls hP hD hS hl hs
      replace hs : b_X3_weakestStretch_12  (L_X3_weakestStretch_12 v1 fi n_12) v1 fi v2 v3 v4 = some r0 := hs
      unfold b_X3_weakestStretch_12 at hs
      refine lv_iload hx hb dX3_weakestStretch_12 (lv_at hl 4 rfl) ?_
      refine lv_bipush (v := 12) hx hb dX3_weakestStretch_14 (by decide) ?_
      refine lv_icmp_ge (tgt := 46) hx hb dX3_weakestStretch_16 (by decide) (fun c_3 => ?_) (fun c_3 => ?_)
      · replace hs := if_p c_3 hs
        refine lv_iload_n hx hb dX3_weakestStretch_46 rfl (lv_at hl 2 rfl) ?_
        cases hs
        exact hret _ _ _ _ hP hD hS (vp_nar_int _) dX3_weakestStretch_47
      · replace hs := if_n c_3 hs
        refine lv_aload_n hx hb dX3_weakestStretch_19 rfl (lv_at hl 0 rfl) ?_
        refine lv_iload hx hb dX3_weakestStretch_20 (lv_at hl 4 rfl) ?_
        refine lv_iload_n hx hb dX3_weakestStretch_22 rfl (lv_at hl 1 rfl) ?_
        obtain ⟨r_4, hc_5, hs⟩ := ob1_e hs
        refine kci (wr := []) (ws' := [(q3, .inr (3, [.ref q3fi, .ref q3to, .int th, .int he, .int ma, .int ro])), (q3fi, .inl (cI, 12, .inl fi)), (q3to, .inl (cI, 12, .inl to))]) (va_runV (As := [.int v4, .int v1]) (rest := []) ⟨hx, hb, hml, hown, hts⟩ (k_X3_firmTogether l dC dI cI cZ cS q3 q3fi q3to H.size th he ma ro fi to v4 v1 r_4 hc_5) (cwV 2 hts (kGood (kgV mG_165 mG_166 mG_167 mG_30 mG_163)) rfl rfl rfl ⟨rfl, hd_X3_firmTogether⟩ ⟨Nat.le_of_ble_eq_true rfl, Nat.le_of_ble_eq_true rfl⟩) (kpV hK hN (hP.sub (ws' := [(q3, .inr (3, [.ref q3fi, .ref q3to, .int th, .int he, .int ma, .int ro])), (q3fi, .inl (cI, 12, .inl fi)), (q3to, .inl (cI, 12, .inl to))]) [0, 1, 2] rfl) (hD.sub (ws' := [(q3, .inr (3, [.ref q3fi, .ref q3to, .int th, .int he, .int ma, .int ro])), (q3fi, .inl (cI, 12, .inl fi)), (q3to, .inl (cI, 12, .inl to))]) [0, 1, 2] rfl rfl) rfl rfl rfl) rfl rfl hl.1 rfl (lv_room (Nat.le_of_ble_eq_true rfl)) dX3_weakestStretch_23 ⟨Nat.zero_le _, Nat.zero_le _⟩) hP hD hS hA [0, 1, 2] [] [0, 1, 2] rfl rfl rfl (by decide) rfl rfl (fun H locs hP hD hS => ?_)
        refine lv_istore (lv' := [(5, .int r_4), (0, .ref q3), (1, .int v1), (2, .int v2), (3, .int v3), (4, .int v4)]) hx hb dX3_weakestStretch_26 hl (by decide) rfl (fun ls hl => ?_)
        refine lv_iload hx hb dX3_weakestStretch_28 (lv_at hl 0 rfl) ?_
        refine lv_iload_n hx hb dX3_weakestStretch_30 rfl (lv_at hl 4 rfl) ?_
        refine lv_icmp_ge (tgt := 40) hx hb dX3_weakestStretch_31 (by decide) (fun c_6 => ?_) (fun c_6 => ?_)
        · replace hs := if_p c_6 hs
          refine lv_iinc (v := (v4 + 1)) (lv' := [(4, .int (v4 + 1)), (5, .int r_4), (0, .ref q3), (1, .int v1), (2, .int v2), (3, .int v3)]) hx hb dX3_weakestStretch_40 hl (k := 5) rfl rfl (by decide) rfl (fun ls hl => ?_)
          refine lv_goto (tgt := 12) hx hb dX3_weakestStretch_43 (by decide) ?_
          exact ih_12 v2 v3 (v4 + 1) _ _ _ hP hD hS (lv_sub hl [2, 3, 4, 5, 0] rfl) hs
        · replace hs := if_n c_6 hs
          refine lv_iload hx hb dX3_weakestStretch_34 (lv_at hl 5 rfl) ?_
          refine lv_istore_n (lv' := [(2, .int v4), (5, .int r_4), (0, .ref q3), (1, .int v1), (3, .int v3), (4, .int v4)]) hx hb dX3_weakestStretch_36 rfl hl (by decide) rfl (fun ls hl => ?_)
          refine lv_iload hx hb dX3_weakestStretch_37 (lv_at hl 1 rfl) ?_
          refine lv_istore_n (lv' := [(3, .int r_4), (2, .int v4), (5, .int r_4), (0, .ref q3), (1, .int v1), (4, .int v4)]) hx hb dX3_weakestStretch_39 rfl hl (by decide) rfl (fun ls hl => ?_)
          refine lv_iinc (v := (v4 + 1)) (lv' := [(4, .int (v4 + 1)), (3, .int r_4), (2, .int v4), (5, .int r_4), (0, .ref q3), (1, .int v1)]) hx hb dX3_weakestStretch_40 hl (k := 5) rfl rfl (by decide) rfl (fun ls hl => ?_)
          refine lv_goto (tgt := 12) hx hb dX3_weakestStretch_43 (by decide) ?_
          exact ih_12 v4 r_4 (v4 + 1) _ _ _ hP hD hS (lv_sub hl [4, 5, 2, 1, 0] rfl) hs
  exact hL_12 fu (0 : Int32) r_1 (1 : Int32) _ _ _ hP hD hS (lv_sub hl [3, 4, 2, 1, 0] rfl) hs
abbrev rm_J7_fill_53178 : Room := { frames := 0, cells := 0, slots := 0, locals := 0 }
theorem hd_J7_fill_53178 : yJ7_fill_53178.cls ≠ "java/lang/invoke/MethodHandle" ∧ yJ7_fill_53178.cls ≠ "java/lang/invoke/VarHandle" ∧ (parseMethodDescriptor yJ7_fill_53178.desc).map (fun d => d.parameters.length) = some 2 := by decide +kernel
set_option maxHeartbeats 4000000 in
set_option maxRecDepth 100000 in
theorem k_J7_fill_53178 (l : Launch) (dC : Nat → ClassId) (dI : Nat → Nat → Nat) (cI cZ cS : ClassId) (qa : Nat) (sz : Nat) (fi : Ar) (nn : Nat) (v1 : Int32) (fi_o : Ar) (hs : m_J7_fill_53178 nn v1 fi = some fi_o) : Met l yJ7_fill_53178 (.code yJ7_fill_53178 cJ7_fill_53178 4 none :: kG) rm_J7_fill_53178 (va_Pc [.ref qa, .int v1] (kW (dC, dI) cI cZ cS [(qa, .inl (cI, nn, .inl fi))] sz)) (kQv (dC, dI) [(qa, .inl (cI, nn, .inl fi))] [(qa, .inl (cI, nn, .inl fi_o))] sz) 0 0 (va_A [(qa, .inl (cI, nn, .inl fi))] sz) := by
  refine kMv (own := RJ7) (by decide) rfl ?_ (Nat.le_of_ble_eq_true rfl)
  intro p e s m args below meth c Q A CF hK hN hA hP hD hret ls hl
  have hS : va_S A s.heap s.heap [] := va_S.rf
  obtain ⟨hx, hb, hml, hown, hts⟩ := id CF
  have hl : lv_has ls 4 [(0, .ref qa), (1, .int v1)] := hl
  unfold m_J7_fill_53178 at hs
  refine lv_iconst (v := 0) hx hb dJ7_fill_53178_0 (by decide) ?_
  refine lv_istore_n (lv' := [(2, .int (0 : Int32)), (0, .ref qa), (1, .int v1)]) hx hb dJ7_fill_53178_1 rfl hl (by decide) rfl (fun ls hl => ?_)
  refine lv_aload_n hx hb dJ7_fill_53178_2 rfl (lv_at hl 1 rfl) ?_
  refine va_alen hx hb hK hP 0 0 rfl rfl (v := (Int32.ofNat nn)) rfl dJ7_fill_53178_3 ?_
  refine lv_istore_n (lv' := [(3, .int (Int32.ofNat nn)), (2, .int (0 : Int32)), (0, .ref qa), (1, .int v1)]) hx hb dJ7_fill_53178_4 rfl hl (by decide) rfl (fun ls hl => ?_)
  have hL_5 : ∀ (n : Nat) (v2 : Int32) (v3 : Int32) (fi : Ar) (H : Heap) (locs : List Loc) (ls : Array Slot), va_P (dC, dI) vwCl [(qa, .inl (cI, nn, .inl fi))] H → va_D A [(qa, .inl (cI, nn, .inl fi))] → va_S A s.heap H locs → lv_has ls 4 [(0, .ref qa), (1, .int v1), (2, .int v2), (3, .int v3)] → L_J7_fill_53178_5 nn v1 v3 n v2 fi = some fi_o → W p l e rm_J7_fill_53178 s m args below meth c H locs 0 0 Q (F0 m 5 ls []) := by
    intro n
    induction n with
    | zero =>
      intro v2 v3 fi H locs ls hP hD hS hl hs
      replace hs : (none : Option (Ar)) = some fi_o := hs
      cases hs
    | succ n_5 ih_5 =>
      intro v2 v3 fi H locs ls hP hD hS hl hs
      replace hs : b_J7_fill_53178_5  (L_J7_fill_53178_5 nn v1 v3 n_5) nn v1 v3 v2 fi = some fi_o := hs
      unfold b_J7_fill_53178_5 at hs
      refine lv_iload_n hx hb dJ7_fill_53178_5 rfl (lv_at hl 2 rfl) ?_
      refine lv_iload_n hx hb dJ7_fill_53178_6 rfl (lv_at hl 3 rfl) ?_
      refine lv_icmp_ge (tgt := 20) hx hb dJ7_fill_53178_7 (by decide) (fun c_1 => ?_) (fun c_1 => ?_)
      · replace hs := if_p c_1 hs
        cases hs
        exact hret _ _ _ _ hP hD hS dJ7_fill_53178_20
      · replace hs := if_n c_1 hs
        refine lv_aload_n hx hb dJ7_fill_53178_10 rfl (lv_at hl 0 rfl) ?_
        refine lv_iload_n hx hb dJ7_fill_53178_11 rfl (lv_at hl 2 rfl) ?_
        refine lv_iload_n hx hb dJ7_fill_53178_12 rfl (lv_at hl 1 rfl) ?_
        obtain ⟨hg_2, hs⟩ := gd_e hs
        refine kast hx hb hK hP hD hS 0 0 rfl rfl (j := (Int32.toNatClampNeg v2)) rfl (inb_e hg_2) dJ7_fill_53178_13 (fun H locs hP hD hS => ?_)
        have hP : va_P (dC, dI) vwCl [(qa, .inl (cI, nn, .inl (upd fi (Int32.toNatClampNeg v2) v1)))] H := hP
        have hD : va_D A [(qa, .inl (cI, nn, .inl (upd fi (Int32.toNatClampNeg v2) v1)))] := hD
        refine lv_iinc (v := (v2 + 1)) (lv' := [(2, .int (v2 + 1)), (0, .ref qa), (1, .int v1), (3, .int v3)]) hx hb dJ7_fill_53178_14 hl (k := 2) rfl rfl (by decide) rfl (fun ls hl => ?_)
        refine lv_goto (tgt := 5) hx hb dJ7_fill_53178_17 (by decide) ?_
        exact ih_5 (v2 + 1) v3 (upd fi (Int32.toNatClampNeg v2) v1) _ _ _ hP hD hS (lv_sub hl [1, 2, 0, 3] rfl) hs
  exact hL_5 fu (0 : Int32) (Int32.ofNat nn) fi _ _ _ hP hD hS (lv_sub hl [2, 3, 1, 0] rfl) hs
