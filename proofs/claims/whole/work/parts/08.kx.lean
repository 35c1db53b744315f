abbrev rm_X4_part : Room := { frames := 1, cells := 0, slots := 0, locals := 22 }
theorem hd_X4_part : yX4_part.cls ≠ "java/lang/invoke/MethodHandle" ∧ yX4_part.cls ≠ "java/lang/invoke/VarHandle" ∧ (parseMethodDescriptor yX4_part.desc).map (fun d => d.parameters.length) = some 3 := by decide +kernel
set_option maxHeartbeats 4000000 in
set_option maxRecDepth 100000 in
theorem k_X4_part (l : Launch) (dC : Nat → ClassId) (dI : Nat → Nat → Nat) (cI cZ cS : ClassId) (q4 q0 q0sg q1 q3 q3fi q3to q1ne q2 q3w q3fiw q3tow q4im : Nat) (sz : Nat) (ct : Int32) (sg : Ar) (si : Int32) (ft : Int32) (th : Int32) (he : Int32) (ma : Int32) (ro : Int32) (fi : Ar) (to : Ar) (ne : Ar) (ac : Int32) (wy : Int32) (fa : Int32) (fp : Int32) (thw : Int32) (hew : Int32) (maw : Int32) (row : Int32) (fiw : Ar) (tow : Ar) (im : Nat → Option Nat) (v1 : Int32) (v2 : Int32) (v3 : Int32) (r0 : Int32) (fi_o : Ar) (to_o : Ar) (hs : m_X4_part v1 v2 v3 fi to = some (r0, fi_o, to_o)) : Met l yX4_part (.code yX4_part cX4_part 5 (some .int) :: kG) rm_X4_part (va_Pc [.ref q4, .int v1, .int v2, .int v3] (kW (dC, dI) cI cZ cS [(q4, .inr (4, [.ref q0, .ref q1, .ref q2, .ref q4im])), (q0, .inr (0, [.ref q0sg, .int ct])), (q0sg, .inl (cI, 60, .inl sg)), (q1, .inr (1, [.ref q3, .ref q1ne, .int si, .int ft])), (q3, .inr (3, [.ref q3fi, .ref q3to, .int th, .int he, .int ma, .int ro])), (q3fi, .inl (cI, 12, .inl fi)), (q3to, .inl (cI, 12, .inl to)), (q1ne, .inl (cI, 8, .inl ne)), (q2, .inr (2, [.ref q3w, .int ac, .int wy, .int fa, .int fp])), (q3w, .inr (3, [.ref q3fiw, .ref q3tow, .int thw, .int hew, .int maw, .int row])), (q3fiw, .inl (cI, 12, .inl fiw)), (q3tow, .inl (cI, 12, .inl tow)), (q4im, .inl (cS, 2, .inr (.inr (.inr (.inr im)))))] sz)) (kQi (dC, dI) [(q4, .inr (4, [.ref q0, .ref q1, .ref q2, .ref q4im])), (q0, .inr (0, [.ref q0sg, .int ct])), (q0sg, .inl (cI, 60, .inl sg)), (q1, .inr (1, [.ref q3, .ref q1ne, .int si, .int ft])), (q3, .inr (3, [.ref q3fi, .ref q3to, .int th, .int he, .int ma, .int ro])), (q3fi, .inl (cI, 12, .inl fi)), (q3to, .inl (cI, 12, .inl to)), (q1ne, .inl (cI, 8, .inl ne)), (q2, .inr (2, [.ref q3w, .int ac, .int wy, .int fa, .int fp])), (q3w, .inr (3, [.ref q3fiw, .ref q3tow, .int thw, .int hew, .int maw, .int row])), (q3fiw, .inl (cI, 12, .inl fiw)), (q3tow, .inl (cI, 12, .inl tow)), (q4im, .inl (cS, 2, .inr (.inr (.inr (.inr im)))))] [(q4, .inr (4, [.ref q0, .ref q1, .ref q2, .ref q4im])), (q0, .inr (0, [.ref q0sg, .int ct])), (q0sg, .inl (cI, 60, .inl sg)), (q1, .inr (1, [.ref q3, .ref q1ne, .int si, .int ft])), (q3, .inr (3, [.ref q3fi, .ref q3to, .int th, .int he, .int ma, .int ro])), (q3fi, .inl (cI, 12, .inl fi_o)), (q3to, .inl (cI, 12, .inl to_o)), (q1ne, .inl (cI, 8, .inl ne)), (q2, .inr (2, [.ref q3w, .int ac, .int wy, .int fa, .int fp])), (q3w, .inr (3, [.ref q3fiw, .ref q3tow, .int thw, .int hew, .int maw, .int row])), (q3fiw, .inl (cI, 12, .inl fiw)), (q3tow, .inl (cI, 12, .inl tow)), (q4im, .inl (cS, 2, .inr (.inr (.inr (.inr im)))))] sz r0) 0 0 (va_A [(q4, .inr (4, [.ref q0, .ref q1, .ref q2, .ref q4im])), (q0, .inr (0, [.ref q0sg, .int ct])), (q0sg, .inl (cI, 60, .inl sg)), (q1, .inr (1, [.ref q3, .ref q1ne, .int si, .int ft])), (q3, .inr (3, [.ref q3fi, .ref q3to, .int th, .int he, .int ma, .int ro])), (q3fi, .inl (cI, 12, .inl fi)), (q3to, .inl (cI, 12, .inl to)), (q1ne, .inl (cI, 8, .inl ne)), (q2, .inr (2, [.ref q3w, .int ac, .int wy, .int fa, .int fp])), (q3w, .inr (3, [.ref q3fiw, .ref q3tow, .int thw, .int hew, .int maw, .int row])), (q3fiw, .inl (cI, 12, .inl fiw)), (q3tow, .inl (cI, 12, .inl tow)), (q4im, .inl (cS, 2, .inr (.inr (.inr (.inr im)))))] sz) := by
  refine kMi (own := RX4) (ty := .int) rfl (by decide) rfl ?_ (Nat.le_of_ble_eq_true rfl)
  intro p e s m args below meth c Q A CF hK hN hA hP hD hret ls hl
  have hS : va_S A s.heap s.heap [] := va_S.rf
  obtain ⟨hx, hb, hml, hown, hts⟩ := id CF
  have hl : lv_has ls 5 [(0, .ref q4), (1, .int v1), (2, .int v2), (3, .int v3)] := hl
  unfold m_X4_part at hs
  refine lv_iload_n hx hb dX4_part_0 rfl (lv_at hl 1 rfl) ?_
  refine lv_iconst (v := 0) hx hb dX4_part_1 (by decide) ?_
  refine lv_bipush (v := 11) hx hb dX4_part_2 (by decide) ?_
  refine kpi (va_runS (As := [.int v1, .int (0 : Int32), .int (11 : Int32)]) (rest := []) ⟨hx, hb, hml, hown, hts⟩ (k_X4_isOutside l v1 (0 : Int32) (11 : Int32) _ rfl) (va_cwS 3 hts (kGood (kgS mG_188 mG_12 mG_13 mG_9)) rfl rfl rfl hd_X4_isOutside ⟨Nat.le_of_ble_eq_true rfl, Nat.le_of_ble_eq_true rfl⟩) preEq rfl rfl hl.1 rfl (lv_room (Nat.le_of_ble_eq_true rfl)) dX4_part_4 ⟨Nat.zero_le _, Nat.zero_le _⟩) ?_
  refine lv_if_eq (tgt := 12) hx hb dX4_part_7 (by decide) (fun c_1 => ?_) (fun c_1 => ?_)
  · replace hs := if_p c_1 hs
    refine lv_iload_n hx hb dX4_part_12 rfl (lv_at hl 2 rfl) ?_
    refine lv_iconst (v := 0) hx hb dX4_part_13 (by decide) ?_
    refine lv_bipush (v := 99) hx hb dX4_part_14 (by decide) ?_
    refine kpi (va_runS (As := [.int v2, .int (0 : Int32), .int (99 : Int32)]) (rest := []) ⟨hx, hb, hml, hown, hts⟩ (k_X4_isOutside l v2 (0 : Int32) (99 : Int32) _ rfl) (va_cwS 3 hts (kGood (kgS mG_188 mG_12 mG_13 mG_9)) rfl rfl rfl hd_X4_isOutside ⟨Nat.le_of_ble_eq_true rfl, Nat.le_of_ble_eq_true rfl⟩) preEq rfl rfl hl.1 rfl (lv_room (Nat.le_of_ble_eq_true rfl)) dX4_part_16 ⟨Nat.zero_le _, Nat.zero_le _⟩) ?_
    refine lv_if_ne (tgt := 32) hx hb dX4_part_19 (by decide) (fun c_2 => ?_) (fun c_2 => ?_)
    · replace hs := if_n c_2 hs
      refine lv_bipush (v := -2) hx hb dX4_part_32 (by decide) ?_
      cases hs
      exact hret _ _ _ _ hP hD hS (vp_nar_int _) dX4_part_34
    · replace hs := if_p c_2 hs
      refine lv_iload_n hx hb dX4_part_22 rfl (lv_at hl 3 rfl) ?_
      refine lv_iconst (v := 0) hx hb dX4_part_23 (by decide) ?_
      refine lv_bipush (v := 9) hx hb dX4_part_24 (by decide) ?_
      refine kpi (va_runS (As := [.int v3, .int (0 : Int32), .int (9 : Int32)]) (rest := []) ⟨hx, hb, hml, hown, hts⟩ (k_X4_isOutside l v3 (0 : Int32) (9 : Int32) _ rfl) (va_cwS 3 hts (kGood (kgS mG_188 mG_12 mG_13 mG_9)) rfl rfl rfl hd_X4_isOutside ⟨Nat.le_of_ble_eq_true rfl, Nat.le_of_ble_eq_true rfl⟩) preEq rfl rfl hl.1 rfl (lv_room (Nat.le_of_ble_eq_true rfl)) dX4_part_26 ⟨Nat.zero_le _, Nat.zero_le _⟩) ?_
      refine lv_if_eq (tgt := 35) hx hb dX4_part_29 (by decide) (fun c_3 => ?_) (fun c_3 => ?_)
      · replace hs := if_p c_3 hs
        refine lv_aload_n hx hb dX4_part_35 rfl (lv_at hl 0 rfl) ?_
        refine va_get (D := (dC, dI)) (ci := 4) (v := .ref q1) (C := RX4) (T := TX4) (N := 4) hx hb hts (fun w h => kg1 (iG_4 w h)) hown hK hP 0 rfl rfl 1 (by decide) (hts _ (kg1 mG_174)) (fun _ h9 => h9) rfl dX4_part_36 ?_
        refine va_get (D := (dC, dI)) (ci := 1) (v := .ref q3) (C := RX1) (T := TX1) (N := 4) hx hb hts (fun w h => kg1 (iG_1 w h)) hown hK hP 3 rfl rfl 0 (by decide) (hts _ (kg1 mG_185)) (fun _ h9 => h9) rfl dX4_part_39 ?_
        refine va_get (D := (dC, dI)) (ci := 3) (v := .ref q3fi) (C := RX3) (T := TX3) (N := 6) hx hb hts (fun w h => kg1 (iG_3 w h)) hown hK hP 4 rfl rfl 0 (by decide) (hts _ (kg1 mG_186)) (fun _ h9 => h9) rfl dX4_part_42 ?_
        refine lv_iload_n hx hb dX4_part_45 rfl (lv_at hl 1 rfl) ?_
        obtain ⟨hg_4, hs⟩ := gd_e hs
        refine kald hx hb hK hP 5 0 rfl rfl (j := (Int32.toNatClampNeg v1)) rfl (inb_e hg_4) dX4_part_46 ?_
        refine lv_istore (lv' := [(4, .int (fi (Int32.toNatClampNeg v1))), (0, .ref q4), (1, .int v1), (2, .int v2), (3, .int v3)]) hx hb dX4_part_47 hl (by decide) rfl (fun ls hl => ?_)
        refine lv_aload_n hx hb dX4_part_49 rfl (lv_at hl 1 rfl) ?_
        refine va_get (D := (dC, dI)) (ci := 4) (v := .ref q1) (C := RX4) (T := TX4) (N := 4) hx hb hts (fun w h => kg1 (iG_4 w h)) hown hK hP 0 rfl rfl 1 (by decide) (hts _ (kg1 mG_174)) (fun _ h9 => h9) rfl dX4_part_50 ?_
        refine va_get (D := (dC, dI)) (ci := 1) (v := .ref q3) (C := RX1) (T := TX1) (N := 4) hx hb hts (fun w h => kg1 (iG_1 w h)) hown hK hP 3 rfl rfl 0 (by decide) (hts _ (kg1 mG_185)) (fun _ h9 => h9) rfl dX4_part_53 ?_
        refine va_get (D := (dC, dI)) (ci := 3) (v := .ref q3fi) (C := RX3) (T := TX3) (N := 6) hx hb hts (fun w h => kg1 (iG_3 w h)) hown hK hP 4 rfl rfl 0 (by decide) (hts _ (kg1 mG_186)) (fun _ h9 => h9) rfl dX4_part_56 ?_
        refine lv_iload_n hx hb dX4_part_59 rfl (lv_at hl 2 rfl) ?_
        refine lv_iload_n hx hb dX4_part_60 rfl (lv_at hl 3 rfl) ?_
        refine kast hx hb hK hP hD hS 5 0 rfl rfl (j := (Int32.toNatClampNeg v1)) rfl (inb_e hg_4) dX4_part_61 (fun H locs hP hD hS => ?_)
        have hP : va_P (dC, dI) vwCl [(q4, .inr (4, [.ref q0, .ref q1, .ref q2, .ref q4im])), (q0, .inr (0, [.ref q0sg, .int ct])), (q0sg, .inl (cI, 60, .inl sg)), (q1, .inr (1, [.ref q3, .ref q1ne, .int si, .int ft])), (q3, .inr (3, [.ref q3fi, .ref q3to, .int th, .int he, .int ma, .int ro])), (q3fi, .inl (cI, 12, .inl (upd fi (Int32.toNatClampNeg v1) v2))), (q3to, .inl (cI, 12, .inl to)), (q1ne, .inl (cI, 8, .inl ne)), (q2, .inr (2, [.ref q3w, .int ac, .int wy, .int fa, .int fp])), (q3w, .inr (3, [.ref q3fiw, .ref q3tow, .int thw, .int hew, .int maw, .int row])), (q3fiw, .inl (cI, 12, .inl fiw)), (q3tow, .inl (cI, 12, .inl tow)), (q4im, .inl (cS, 2, .inr (.inr (.inr (.inr im)))))] H := hP
        have hD : va_D A [(q4, .inr (4, [.ref q0, .ref q1, .ref q2, .ref q4im])), (q0, .inr (0, [.ref q0sg, .int ct])), (q0sg, .inl (cI, 60, .inl sg)), (q1, .inr (1, [.ref q3, .ref q1ne, .int si, .int ft])), (q3, .inr (3, [.ref q3fi, .ref q3to, .int th, .int he, .int ma, .int ro])), (q3fi, .inl (cI, 12, .inl (upd fi (Int32.toNatClampNeg v1) v2))), (q3to, .inl (cI, 12, .inl to)), (q1ne, .inl (cI, 8, .inl ne)), (q2, .inr (2, [.ref q3w, .int ac, .int wy, .int fa, .int fp])), (q3w, .inr (3, [.ref q3fiw, .ref q3tow, .int thw, .int hew, .int maw, .int row])), (q3fiw, .inl (cI, 12, .inl fiw)), (q3tow, .inl (cI, 12, .inl tow)), (q4im, .inl (cS, 2, .inr (.inr (.inr (.inr im)))))] := hD
        refine lv_aload_n hx hb dX4_part_62 rfl (lv_at hl 1 rfl) ?_
        refine va_get (D := (dC, dI)) (ci := 4) (v := .ref q1) (C := RX4) (T := TX4) (N := 4) hx hb hts (fun w h => kg1 (iG_4 w h)) hown hK hP 0 rfl rfl 1 (by decide) (hts _ (kg1 mG_174)) (fun _ h9 => h9) rfl dX4_part_63 ?_
        refine va_get (D := (dC, dI)) (ci := 1) (v := .ref q3) (C := RX1) (T := TX1) (N := 4) hx hb hts (fun w h => kg1 (iG_1 w h)) hown hK hP 3 rfl rfl 0 (by decide) (hts _ (kg1 mG_185)) (fun _ h9 => h9) rfl dX4_part_66 ?_
        refine va_get (D := (dC, dI)) (ci := 3) (v := .ref q3to) (C := RX3) (T := TX3) (N := 6) hx hb hts (fun w h => kg1 (iG_3 w h)) hown hK hP 4 rfl rfl 1 (by decide) (hts _ (kg1 mG_187)) (fun _ h9 => h9) rfl dX4_part_69 ?_
        refine lv_iload_n hx hb dX4_part_72 rfl (lv_at hl 2 rfl) ?_
        refine lv_iload_n hx hb dX4_part_73 rfl (lv_at hl 4 rfl) ?_
        refine kast hx hb hK hP hD hS 6 0 rfl rfl (j := (Int32.toNatClampNeg v1)) rfl (inb_e hg_4) dX4_part_74 (fun H locs hP hD hS => ?_)
        have hP : va_P (dC, dI) vwCl [(q4, .inr (4, [.ref q0, .ref q1, .ref q2, .ref q4im])), (q0, .inr (0, [.ref q0sg, .int ct])), (q0sg, .inl (cI, 60, .inl sg)), (q1, .inr (1, [.ref q3, .ref q1ne, .int si, .int ft])), (q3, .inr (3, [.ref q3fi, .ref q3to, .int th, .int he, .int ma, .int ro])), (q3fi, .inl (cI, 12, .inl (upd fi (Int32.toNatClampNeg v1) v2))), (q3to, .inl (cI, 12, .inl (upd to (Int32.toNatClampNeg v1) v3))), (q1ne, .inl (cI, 8, .inl ne)), (q2, .inr (2, [.ref q3w, .int ac, .int wy, .int fa, .int fp])), (q3w, .inr (3, [.ref q3fiw, .ref q3tow, .int thw, .int hew, .int maw, .int row])), (q3fiw, .inl (cI, 12, .inl fiw)), (q3tow, .inl (cI, 12, .inl tow)), (q4im, .inl (cS, 2, .inr (.inr (.inr (.inr im)))))] H := hP
        have hD : va_D A [(q4, .inr (4, [.ref q0, .ref q1, .ref q2, .ref q4im])), (q0, .inr (0, [.ref q0sg, .int ct])), (q0sg, .inl (cI, 60, .inl sg)), (q1, .inr (1, [.ref q3, .ref q1ne, .int si, .int ft])), (q3, .inr (3, [.ref q3fi, .ref q3to, .int th, .int he, .int ma, .int ro])), (q3fi, .inl (cI, 12, .inl (upd fi (Int32.toNatClampNeg v1) v2))), (q3to, .inl (cI, 12, .inl (upd to (Int32.toNatClampNeg v1) v3))), (q1ne, .inl (cI, 8, .inl ne)), (q2, .inr (2, [.ref q3w, .int ac, .int wy, .int fa, .int fp])), (q3w, .inr (3, [.ref q3fiw, .ref q3tow, .int thw, .int hew, .int maw, .int row])), (q3fiw, .inl (cI, 12, .inl fiw)), (q3tow, .inl (cI, 12, .inl tow)), (q4im, .inl (cS, 2, .inr (.inr (.inr (.inr im)))))] := hD
        refine lv_iload hx hb dX4_part_75 (lv_at hl 0 rfl) ?_
        cases hs
        exact hret _ _ _ _ hP hD hS (vp_nar_int _) dX4_part_77
      · replace hs := if_n c_3 hs
        refine lv_bipush (v := -2) hx hb dX4_part_32 (by decide) ?_
        cases hs
        exact hret _ _ _ _ hP hD hS (vp_nar_int _) dX4_part_34
  · replace hs := if_n c_1 hs
    refine lv_iconst (v := -1) hx hb dX4_part_10 (by decide) ?_
    cases hs
    exact hret _ _ _ _ hP hD hS (vp_nar_int _) dX4_part_11
abbrev rm_X4_thread : Room := { frames := 1, cells := 0, slots := 0, locals := 22 }
theorem hd_X4_thread : yX4_thread.cls ≠ "java/lang/invoke/MethodHandle" ∧ yX4_thread.cls ≠ "java/lang/invoke/VarHandle" ∧ (parseMethodDescriptor yX4_thread.desc).map (fun d => d.parameters.length) = some 2 := by decide +kernel
set_option maxHeartbeats 4000000 in
set_option maxRecDepth 100000 in
theorem k_X4_thread (l : Launch) (dC : Nat → ClassId) (dI : Nat → Nat → Nat) (cI cZ cS : ClassId) (q4 q0 q0sg q1 q3 q3fi q3to q1ne q2 q3w q3fiw q3tow q4im : Nat) (sz : Nat) (ct : Int32) (sg : Ar) (si : Int32) (ft : Int32) (th : Int32) (he : Int32) (ma : Int32) (ro : Int32) (fi : Ar) (to : Ar) (ne : Ar) (ac : Int32) (wy : Int32) (fa : Int32) (fp : Int32) (thw : Int32) (hew : Int32) (maw : Int32) (row : Int32) (fiw : Ar) (tow : Ar) (im : Nat → Option Nat) (v1 : Int32) (v2 : Int32) (r0 : Int32) (th_o : Int32) (hs : m_X4_thread v1 v2 th = some (r0, th_o)) : Met l yX4_thread (.code yX4_thread cX4_thread 4 (some .int) :: kG) rm_X4_thread (va_Pc [.ref q4, .int v1, .int v2] (kW (dC, dI) cI cZ cS [(q4, .inr (4, [.ref q0, .ref q1, .ref q2, .ref q4im])), (q0, .inr (0, [.ref q0sg, .int ct])), (q0sg, .inl (cI, 60, .inl sg)), (q1, .inr (1, [.ref q3, .ref q1ne, .int si, .int ft])), (q3, .inr (3, [.ref q3fi, .ref q3to, .int th, .int he, .int ma, .int ro])), (q3fi, .inl (cI, 12, .inl fi)), (q3to, .inl (cI, 12, .inl to)), (q1ne, .inl (cI, 8, .inl ne)), (q2, .inr (2, [.ref q3w, .int ac, .int wy, .int fa, .int fp])), (q3w, .inr (3, [.ref q3fiw, .ref q3tow, .int thw, .int hew, .int maw, .int row])), (q3fiw, .inl (cI, 12, .inl fiw)), (q3tow, .inl (cI, 12, .inl tow)), (q4im, .inl (cS, 2, .inr (.inr (.inr (.inr im)))))] sz)) (kQi (dC, dI) [(q4, .inr (4, [.ref q0, .ref q1, .ref q2, .ref q4im])), (q0, .inr (0, [.ref q0sg, .int ct])), (q0sg, .inl (cI, 60, .inl sg)), (q1, .inr (1, [.ref q3, .ref q1ne, .int si, .int ft])), (q3, .inr (3, [.ref q3fi, .ref q3to, .int th, .int he, .int ma, .int ro])), (q3fi, .inl (cI, 12, .inl fi)), (q3to, .inl (cI, 12, .inl to)), (q1ne, .inl (cI, 8, .inl ne)), (q2, .inr (2, [.ref q3w, .int ac, .int wy, .int fa, .int fp])), (q3w, .inr (3, [.ref q3fiw, .ref q3tow, .int thw, .int hew, .int maw, .int row])), (q3fiw, .inl (cI, 12, .inl fiw)), (q3tow, .inl (cI, 12, .inl tow)), (q4im, .inl (cS, 2, .inr (.inr (.inr (.inr im)))))] [(q4, .inr (4, [.ref q0, .ref q1, .ref q2, .ref q4im])), (q0, .inr (0, [.ref q0sg, .int ct])), (q0sg, .inl (cI, 60, .inl sg)), (q1, .inr (1, [.ref q3, .ref q1ne, .int si, .int ft])), (q3, .inr (3, [.ref q3fi, .ref q3to, .int th_o, .int he, .int ma, .int ro])), (q3fi, .inl (cI, 12, .inl fi)), (q3to, .inl (cI, 12, .inl to)), (q1ne, .inl (cI, 8, .inl ne)), (q2, .inr (2, [.ref q3w, .int ac, .int wy, .int fa, .int fp])), (q3w, .inr (3, [.ref q3fiw, .ref q3tow, .int thw, .int hew, .int maw, .int row])), (q3fiw, .inl (cI, 12, .inl fiw)), (q3tow, .inl (cI, 12, .inl tow)), (q4im, .inl (cS, 2, .inr (.inr (.inr (.inr im)))))] sz r0) 0 0 (va_A [(q4, .inr (4, [.ref q0, .ref q1, .ref q2, .ref q4im])), (q0, .inr (0, [.ref q0sg, .int ct])), (q0sg, .inl (cI, 60, .inl sg)), (q1, .inr (1, [.ref q3, .ref q1ne, .int si, .int ft])), (q3, .inr (3, [.ref q3fi, .ref q3to, .int th, .int he, .int ma, .int ro])), (q3fi, .inl (cI, 12, .inl fi)), (q3to, .inl (cI, 12, .inl to)), (q1ne, .inl (cI, 8, .inl ne)), (q2, .inr (2, [.ref q3w, .int ac, .int wy, .int fa, .int fp])), (q3w, .inr (3, [.ref q3fiw, .ref q3tow, .int thw, .int hew, .int maw, .int row])), (q3fiw, .inl (cI, 12, .inl fiw)), (q3tow, .inl (cI, 12, .inl tow)), (q4im, .inl (cS, 2, .inr (.inr (.inr (.inr im)))))] sz) := by
  refine kMi (own := RX4) (ty := .int) rfl (by decide) rfl ?_ (Nat.le_of_ble_eq_true rfl)
  intro p e s m args below meth c Q A CF hK hN hA hP hD hret ls hl
  have hS : va_S A s.heap s.heap [] := va_S.rf
  obtain ⟨hx, hb, hml, hown, hts⟩ := id CF
  have hl : lv_has ls 4 [(0, .ref q4), (1, .int v1), (2, .int v2)] := hl
  unfold m_X4_thread at hs
  refine lv_iload_n hx hb dX4_thread_0 rfl (lv_at hl 1 rfl) ?_
  refine lv_iconst (v := 0) hx hb dX4_thread_1 (by decide) ?_
  refine lv_bipush (v := 11) hx hb dX4_thread_2 (by decide) ?_
  refine kpi (va_runS (As := [.int v1, .int (0 : Int32), .int (11 : Int32)]) (rest := []) ⟨hx, hb, hml, hown, hts⟩ (k_X4_isOutside l v1 (0 : Int32) (11 : Int32) _ rfl) (va_cwS 3 hts (kGood (kgS mG_188 mG_12 mG_13 mG_9)) rfl rfl rfl hd_X4_isOutside ⟨Nat.le_of_ble_eq_true rfl, Nat.le_of_ble_eq_true rfl⟩) preEq rfl rfl hl.1 rfl (lv_room (Nat.le_of_ble_eq_true rfl)) dX4_thread_4 ⟨Nat.zero_le _, Nat.zero_le _⟩) ?_
  refine lv_if_eq (tgt := 12) hx hb dX4_thread_7 (by decide) (fun c_1 => ?_) (fun c_1 => ?_)
  · replace hs := if_p c_1 hs
    refine lv_iconst (v := 1) hx hb dX4_thread_12 (by decide) ?_
    refine lv_iload_n hx hb dX4_thread_13 rfl (lv_at hl 1 rfl) ?_
    refine lv_ishl hx hb dX4_thread_14 ?_
    refine lv_istore_n (lv' := [(3, .int ((1 : Int32) <<< (v1 &&& 31))), (0, .ref q4), (1, .int v1), (2, .int v2)]) hx hb dX4_thread_15 rfl hl (by decide) rfl (fun ls hl => ?_)
    refine lv_aload_n hx hb dX4_thread_16 rfl (lv_at hl 1 rfl) ?_
    refine va_get (D := (dC, dI)) (ci := 4) (v := .ref q1) (C := RX4) (T := TX4) (N := 4) hx hb hts (fun w h => kg1 (iG_4 w h)) hown hK hP 0 rfl rfl 1 (by decide) (hts _ (kg1 mG_174)) (fun _ h9 => h9) rfl dX4_thread_17 ?_
    refine va_get (D := (dC, dI)) (ci := 1) (v := .ref q3) (C := RX1) (T := TX1) (N := 4) hx hb hts (fun w h => kg1 (iG_1 w h)) hown hK hP 3 rfl rfl 0 (by decide) (hts _ (kg1 mG_185)) (fun _ h9 => h9) rfl dX4_thread_20 ?_
    refine lv_iload_n hx hb dX4_thread_23 rfl (lv_at hl 3 rfl) ?_
    have hJ_56 : ∀ (s56_0 : Int32) (th : Int32) (H : Heap) (locs : List Loc) (ls : Array Slot), va_P (dC, dI) vwCl [(q4, .inr (4, [.ref q0, .ref q1, .ref q2, .ref q4im])), (q0, .inr (0, [.ref q0sg, .int ct])), (q0sg, .inl (cI, 60, .inl sg)), (q1, .inr (1, [.ref q3, .ref q1ne, .int si, .int ft])), (q3, .inr (3, [.ref q3fi, .ref q3to, .int th, .int he, .int ma, .int ro])), (q3fi, .inl (cI, 12, .inl fi)), (q3to, .inl (cI, 12, .inl to)), (q1ne, .inl (cI, 8, .inl ne)), (q2, .inr (2, [.ref q3w, .int ac, .int wy, .int fa, .int fp])), (q3w, .inr (3, [.ref q3fiw, .ref q3tow, .int thw, .int hew, .int maw, .int row])), (q3fiw, .inl (cI, 12, .inl fiw)), (q3tow, .inl (cI, 12, .inl tow)), (q4im, .inl (cS, 2, .inr (.inr (.inr (.inr im)))))] H → va_D A [(q4, .inr (4, [.ref q0, .ref q1, .ref q2, .ref q4im])), (q0, .inr (0, [.ref q0sg, .int ct])), (q0sg, .inl (cI, 60, .inl sg)), (q1, .inr (1, [.ref q3, .ref q1ne, .int si, .int ft])), (q3, .inr (3, [.ref q3fi, .ref q3to, .int th, .int he, .int ma, .int ro])), (q3fi, .inl (cI, 12, .inl fi)), (q3to, .inl (cI, 12, .inl to)), (q1ne, .inl (cI, 8, .inl ne)), (q2, .inr (2, [.ref q3w, .int ac, .int wy, .int fa, .int fp])), (q3w, .inr (3, [.ref q3fiw, .ref q3tow, .int thw, .int hew, .int maw, .int row])), (q3fiw, .inl (cI, 12, .inl fiw)), (q3tow, .inl (cI, 12, .inl tow)), (q4im, .inl (cS, 2, .inr (.inr (.inr (.inr im)))))] → va_S A s.heap H locs → lv_has ls 4 [(0, .ref q4)] → j_X4_thread_56 s56_0 = some (r0, th_o) → W p l e rm_X4_thread s m args below meth c H locs 0 0 Q (F0 m 56 ls [.int s56_0, .ref q3]) := by
      intro s56_0 th H locs ls hP hD hS hl hs
      unfold j_X4_thread_56 at hs
      refine va_put (D := (dC, dI)) (ci := 3) (v := .int s56_0) (ty := .int) (C := RX3) (T := TX3) (N := 6) hx hb hts (fun w h => kg1 (iG_3 w h)) tyX3 tyX3_ok nmX3 hown hK hP hD hS 4 rfl rfl 2 (by decide) (hts _ (kg1 mG_190)) (fun _ h9 => h9) rfl rfl rfl rfl (Nat.le_of_ble_eq_true rfl) dX4_thread_56 (fun H locs hP hD hS => ?_)
      have hP : va_P (dC, dI) vwCl [(q4, .inr (4, [.ref q0, .ref q1, .ref q2, .ref q4im])), (q0, .inr (0, [.ref q0sg, .int ct])), (q0sg, .inl (cI, 60, .inl sg)), (q1, .inr (1, [.ref q3, .ref q1ne, .int si, .int ft])), (q3, .inr (3, [.ref q3fi, .ref q3to, .int s56_0, .int he, .int ma, .int ro])), (q3fi, .inl (cI, 12, .inl fi)), (q3to, .inl (cI, 12, .inl to)), (q1ne, .inl (cI, 8, .inl ne)), (q2, .inr (2, [.ref q3w, .int ac, .int wy, .int fa, .int fp])), (q3w, .inr (3, [.ref q3fiw, .ref q3tow, .int thw, .int hew, .int maw, .int row])), (q3fiw, .inl (cI, 12, .inl fiw)), (q3tow, .inl (cI, 12, .inl tow)), (q4im, .inl (cS, 2, .inr (.inr (.inr (.inr im)))))] H := hP
      have hD : va_D A [(q4, .inr (4, [.ref q0, .ref q1, .ref q2, .ref q4im])), (q0, .inr (0, [.ref q0sg, .int ct])), (q0sg, .inl (cI, 60, .inl sg)), (q1, .inr (1, [.ref q3, .ref q1ne, .int si, .int ft])), (q3, .inr (3, [.ref q3fi, .ref q3to, .int s56_0, .int he, .int ma, .int ro])), (q3fi, .inl (cI, 12, .inl fi)), (q3to, .inl (cI, 12, .inl to)), (q1ne, .inl (cI, 8, .inl ne)), (q2, .inr (2, [.ref q3w, .int ac, .int wy, .int fa, .int fp])), (q3w, .inr (3, [.ref q3fiw, .ref q3tow, .int thw, .int hew, .int maw, .int row])), (q3fiw, .inl (cI, 12, .inl fiw)), (q3tow, .inl (cI, 12, .inl tow)), (q4im, .inl (cS, 2, .inr (.inr (.inr (.inr im)))))] := hD
      refine lv_aload_n hx hb dX4_thread_59 rfl (lv_at hl 0 rfl) ?_
      refine va_get (D := (dC, dI)) (ci := 4) (v := .ref q1) (C := RX4) (T := TX4) (N := 4) hx hb hts (fun w h => kg1 (iG_4 w h)) hown hK hP 0 rfl rfl 1 (by decide) (hts _ (kg1 mG_174)) (fun _ h9 => h9) rfl dX4_thread_60 ?_
      refine va_get (D := (dC, dI)) (ci := 1) (v := .ref q3) (C := RX1) (T := TX1) (N := 4) hx hb hts (fun w h => kg1 (iG_1 w h)) hown hK hP 3 rfl rfl 0 (by decide) (hts _ (kg1 mG_185)) (fun _ h9 => h9) rfl dX4_thread_63 ?_
      refine va_get (D := (dC, dI)) (ci := 3) (v := .int s56_0) (C := RX3) (T := TX3) (N := 6) hx hb hts (fun w h => kg1 (iG_3 w h)) hown hK hP 4 rfl rfl 2 (by decide) (hts _ (kg1 mG_190)) (fun _ h9 => h9) rfl dX4_thread_66 ?_
      refine kpi (va_runS (As := [.int s56_0]) (rest := []) ⟨hx, hb, hml, hown, hts⟩ (k_J6_bitCount_0f7a4 l s56_0 _ rfl) (va_cwS 1 hts (kGood (kgS mG_191 mG_58 mG_59 mG_52)) rfl rfl rfl hd_J6_bitCount_0f7a4 ⟨Nat.le_of_ble_eq_true rfl, Nat.le_of_ble_eq_true rfl⟩) preEq rfl rfl hl.1 rfl (lv_room (Nat.le_of_ble_eq_true rfl)) dX4_thread_69 ⟨Nat.zero_le _, Nat.zero_le _⟩) ?_
      cases hs
      exact hret _ _ _ _ hP hD hS (vp_nar_int _) dX4_thread_72
    refine lv_if_eq (tgt := 42) hx hb dX4_thread_24 (by decide) (fun c_2 => ?_) (fun c_2 => ?_)
    · replace hs := if_p c_2 hs
      refine lv_aload_n hx hb dX4_thread_42 rfl (lv_at hl 1 rfl) ?_
      refine va_get (D := (dC, dI)) (ci := 4) (v := .ref q1) (C := RX4) (T := TX4) (N := 4) hx hb hts (fun w h => kg1 (iG_4 w h)) hown hK hP 0 rfl rfl 1 (by decide) (hts _ (kg1 mG_174)) (fun _ h9 => h9) rfl dX4_thread_43 ?_
      refine va_get (D := (dC, dI)) (ci := 1) (v := .ref q3) (C := RX1) (T := TX1) (N := 4) hx hb hts (fun w h => kg1 (iG_1 w h)) hown hK hP 3 rfl rfl 0 (by decide) (hts _ (kg1 mG_185)) (fun _ h9 => h9) rfl dX4_thread_46 ?_
      refine va_get (D := (dC, dI)) (ci := 3) (v := .int th) (C := RX3) (T := TX3) (N := 6) hx hb hts (fun w h => kg1 (iG_3 w h)) hown hK hP 4 rfl rfl 2 (by decide) (hts _ (kg1 mG_190)) (fun _ h9 => h9) rfl dX4_thread_49 ?_
      refine lv_iload_n hx hb dX4_thread_52 rfl (lv_at hl 0 rfl) ?_
      refine lv_iconst (v := -1) hx hb dX4_thread_53 (by decide) ?_
      refine lv_ixor hx hb dX4_thread_54 ?_
      refine lv_iand hx hb dX4_thread_55 ?_
      exact hJ_56 (th &&& (((1 : Int32) <<< (v1 &&& 31)) ^^^ (-1 : Int32))) th _ _ _ hP hD hS (lv_sub hl [1] rfl) hs
    · replace hs := if_n c_2 hs
      refine lv_aload_n hx hb dX4_thread_27 rfl (lv_at hl 1 rfl) ?_
      refine va_get (D := (dC, dI)) (ci := 4) (v := .ref q1) (C := RX4) (T := TX4) (N := 4) hx hb hts (fun w h => kg1 (iG_4 w h)) hown hK hP 0 rfl rfl 1 (by decide) (hts _ (kg1 mG_174)) (fun _ h9 => h9) rfl dX4_thread_28 ?_
      refine va_get (D := (dC, dI)) (ci := 1) (v := .ref q3) (C := RX1) (T := TX1) (N := 4) hx hb hts (fun w h => kg1 (iG_1 w h)) hown hK hP 3 rfl rfl 0 (by decide) (hts _ (kg1 mG_185)) (fun _ h9 => h9) rfl dX4_thread_31 ?_
      refine va_get (D := (dC, dI)) (ci := 3) (v := .int th) (C := RX3) (T := TX3) (N := 6) hx hb hts (fun w h => kg1 (iG_3 w h)) hown hK hP 4 rfl rfl 2 (by decide) (hts _ (kg1 mG_190)) (fun _ h9 => h9) rfl dX4_thread_34 ?_
      refine lv_iload_n hx hb dX4_thread_37 rfl (lv_at hl 0 rfl) ?_
      refine lv_ior hx hb dX4_thread_38 ?_
      refine lv_goto (tgt := 56) hx hb dX4_thread_39 (by decide) ?_
      exact hJ_56 (th ||| ((1 : Int32) <<< (v1 &&& 31))) th _ _ _ hP hD hS (lv_sub hl [1] rfl) hs
  · replace hs := if_n c_1 hs
    refine lv_iconst (v := -1) hx hb dX4_thread_10 (by decide) ?_
    cases hs
    exact hret _ _ _ _ hP hD hS (vp_nar_int _) dX4_thread_11
abbrev rm_X4_set : Room := { frames := 1, cells := 0, slots := 0, locals := 22 }
theorem hd_X4_set : yX4_set.cls ≠ "java/lang/invoke/MethodHandle" ∧ yX4_set.cls ≠ "java/lang/invoke/VarHandle" ∧ (parseMethodDescriptor yX4_set.desc).map (fun d => d.parameters.length) = some 2 := by decide +kernel
set_option maxHeartbeats 4000000 in
set_option maxRecDepth 100000 in
theorem k_X4_set (l : Launch) (dC : Nat → ClassId) (dI : Nat → Nat → Nat) (cI cZ cS : ClassId) (q4 q0 q0sg q1 q3 q3fi q3to q1ne q2 q3w q3fiw q3tow q4im : Nat) (sz : Nat) (ct : Int32) (sg : Ar) (si : Int32) (ft : Int32) (th : Int32) (he : Int32) (ma : Int32) (ro : Int32) (fi : Ar) (to : Ar) (ne : Ar) (ac : Int32) (wy : Int32) (fa : Int32) (fp : Int32) (thw : Int32) (hew : Int32) (maw : Int32) (row : Int32) (fiw : Ar) (tow : Ar) (im : Nat → Option Nat) (v1 : Int32) (v2 : Int32) (r0 : Int32) (he_o : Int32) (ma_o : Int32) (ro_o : Int32) (hs : m_X4_set v1 v2 he ma ro = some (r0, he_o, ma_o, ro_o)) : Met l yX4_set (.code yX4_set cX4_set 3 (some .int) :: kG) rm_X4_set (va_Pc [.ref q4, .int v1, .int v2] (kW (dC, dI) cI cZ cS [(q4, .inr (4, [.ref q0, .ref q1, .ref q2, .ref q4im])), (q0, .inr (0, [.ref q0sg, .int ct])), (q0sg, .inl (cI, 60, .inl sg)), (q1, .inr (1, [.ref q3, .ref q1ne, .int si, .int ft])), (q3, .inr (3, [.ref q3fi, .ref q3to, .int th, .int he, .int ma, .int ro])), (q3fi, .inl (cI, 12, .inl fi)), (q3to, .inl (cI, 12, .inl to)), (q1ne, .inl (cI, 8, .inl ne)), (q2, .inr (2, [.ref q3w, .int ac, .int wy, .int fa, .int fp])), (q3w, .inr (3, [.ref q3fiw, .ref q3tow, .int thw, .int hew, .int maw, .int row])), (q3fiw, .inl (cI, 12, .inl fiw)), (q3tow, .inl (cI, 12, .inl tow)), (q4im, .inl (cS, 2, .inr (.inr (.inr (.inr im)))))] sz)) (kQi (dC, dI) [(q4, .inr (4, [.ref q0, .ref q1, .ref q2, .ref q4im])), (q0, .inr (0, [.ref q0sg, .int ct])), (q0sg, .inl (cI, 60, .inl sg)), (q1, .inr (1, [.ref q3, .ref q1ne, .int si, .int ft])), (q3, .inr (3, [.ref q3fi, .ref q3to, .int th, .int he, .int ma, .int ro])), (q3fi, .inl (cI, 12, .inl fi)), (q3to, .inl (cI, 12, .inl to)), (q1ne, .inl (cI, 8, .inl ne)), (q2, .inr (2, [.ref q3w, .int ac, .int wy, .int fa, .int fp])), (q3w, .inr (3, [.ref q3fiw, .ref q3tow, .int thw, .int hew, .int maw, .int row])), (q3fiw, .inl (cI, 12, .inl fiw)), (q3tow, .inl (cI, 12, .inl tow)), (q4im, .inl (cS, 2, .inr (.inr (.inr (.inr im)))))] [(q4, .inr (4, [.ref q0, .ref q1, .ref q2, .ref q4im])), (q0, .inr (0, [.ref q0sg, .int ct])), (q0sg, .inl (cI, 60, .inl sg)), (q1, .inr (1, [.ref q3, .ref q1ne, .int si, .int ft])), (q3, .inr (3, [.ref q3fi, .ref q3to, .int th, .int he_o, .int ma_o, .int ro_o])), (q3fi, .inl (cI, 12, .inl fi)), (q3to, .inl (cI, 12, .inl to)), (q1ne, .inl (cI, 8, .inl ne)), (q2, .inr (2, [.ref q3w, .int ac, .int wy, .int fa, .int fp])), (q3w, .inr (3, [.ref q3fiw, .ref q3tow, .int thw, .int hew, .int maw, .int row])), (q3fiw, .inl (cI, 12, .inl fiw)), (q3tow, .inl (cI, 12, .inl tow)), (q4im, .inl (cS, 2, .inr (.inr (.inr (.inr im)))))] sz r0) 0 0 (va_A [(q4, .inr (4, [.ref q0, .ref q1, .ref q2, .ref q4im])), (q0, .inr (0, [.ref q0sg, .int ct])), (q0sg, .inl (cI, 60, .inl sg)), (q1, .inr (1, [.ref q3, .ref q1ne, .int si, .int ft])), (q3, .inr (3, [.ref q3fi, .ref q3to, .int th, .int he, .int ma, .int ro])), (q3fi, .inl (cI, 12, .inl fi)), (q3to, .inl (cI, 12, .inl to)), (q1ne, .inl (cI, 8, .inl ne)), (q2, .inr (2, [.ref q3w, .int ac, .int wy, .int fa, .int fp])), (q3w, .inr (3, [.ref q3fiw, .ref q3tow, .int thw, .int hew, .int maw, .int row])), (q3fiw, .inl (cI, 12, .inl fiw)), (q3tow, .inl (cI, 12, .inl tow)), (q4im, .inl (cS, 2, .inr (.inr (.inr (.inr im)))))] sz) := by
  refine kMi (own := RX4) (ty := .int) rfl (by decide) rfl ?_ (Nat.le_of_ble_eq_true rfl)
  intro p e s m args below meth c Q A CF hK hN hA hP hD hret ls hl
  have hS : va_S A s.heap s.heap [] := va_S.rf
  obtain ⟨hx, hb, hml, hown, hts⟩ := id CF
  have hl : lv_has ls 3 [(0, .ref q4), (1, .int v1), (2, .int v2)] := hl
  unfold m_X4_set at hs
  refine lv_iload_n hx hb dX4_set_0 rfl (lv_at hl 1 rfl) ?_
  by_cases c_1 : v1 = (0 : Int32)
  · replace hs := if_p c_1 hs
    refine lv_tableIn (off := 27) (tgt := 28) hx hb dX4_set_1 (by rw [c_1]; decide) (by rw [c_1]; decide) (by rw [c_1]; decide) (by decide) ?_
    refine lv_iload_n hx hb dX4_set_28 rfl (lv_at hl 2 rfl) ?_
    refine lv_iconst (v := 0) hx hb dX4_set_29 (by decide) ?_
    refine lv_bipush (v := 99) hx hb dX4_set_30 (by decide) ?_
    refine kpi (va_runS (As := [.int v2, .int (0 : Int32), .int (99 : Int32)]) (rest := []) ⟨hx, hb, hml, hown, hts⟩ (k_X4_isOutside l v2 (0 : Int32) (99 : Int32) _ rfl) (va_cwS 3 hts (kGood (kgS mG_188 mG_12 mG_13 mG_9)) rfl rfl rfl hd_X4_isOutside ⟨Nat.le_of_ble_eq_true rfl, Nat.le_of_ble_eq_true rfl⟩) preEq rfl rfl hl.1 rfl (lv_room (Nat.le_of_ble_eq_true rfl)) dX4_set_32 ⟨Nat.zero_le _, Nat.zero_le _⟩) ?_
    refine lv_if_eq (tgt := 43) hx hb dX4_set_35 (by decide) (fun c_2 => ?_) (fun c_2 => ?_)
    · replace hs := if_p c_2 hs
      refine lv_aload_n hx hb dX4_set_43 rfl (lv_at hl 0 rfl) ?_
      refine va_get (D := (dC, dI)) (ci := 4) (v := .ref q1) (C := RX4) (T := TX4) (N := 4) hx hb hts (fun w h => kg1 (iG_4 w h)) hown hK hP 0 rfl rfl 1 (by decide) (hts _ (kg1 mG_174)) (fun _ h9 => h9) rfl dX4_set_44 ?_
      refine va_get (D := (dC, dI)) (ci := 1) (v := .ref q3) (C := RX1) (T := TX1) (N := 4) hx hb hts (fun w h => kg1 (iG_1 w h)) hown hK hP 3 rfl rfl 0 (by decide) (hts _ (kg1 mG_185)) (fun _ h9 => h9) rfl dX4_set_47 ?_
      refine lv_iload_n hx hb dX4_set_50 rfl (lv_at hl 2 rfl) ?_
      obtain ⟨r_3, he_4, hc_5, hs⟩ := ob2_e hs
      refine kci (wr := [(q4, .inr (4, [.ref q0, .ref q1, .ref q2, .ref q4im])), (q0, .inr (0, [.ref q0sg, .int ct])), (q0sg, .inl (cI, 60, .inl sg)), (q1, .inr (1, [.ref q3, .ref q1ne, .int si, .int ft])), (q1ne, .inl (cI, 8, .inl ne)), (q2, .inr (2, [.ref q3w, .int ac, .int wy, .int fa, .int fp])), (q3w, .inr (3, [.ref q3fiw, .ref q3tow, .int thw, .int hew, .int maw, .int row])), (q3fiw, .inl (cI, 12, .inl fiw)), (q3tow, .inl (cI, 12, .inl tow)), (q4im, .inl (cS, 2, .inr (.inr (.inr (.inr im)))))]) (ws' := [(q4, .inr (4, [.ref q0, .ref q1, .ref q2, .ref q4im])), (q0, .inr (0, [.ref q0sg, .int ct])), (q0sg, .inl (cI, 60, .inl sg)), (q1, .inr (1, [.ref q3, .ref q1ne, .int si, .int ft])), (q3, .inr (3, [.ref q3fi, .ref q3to, .int th, .int he_4, .int ma, .int ro])), (q3fi, .inl (cI, 12, .inl fi)), (q3to, .inl (cI, 12, .inl to)), (q1ne, .inl (cI, 8, .inl ne)), (q2, .inr (2, [.ref q3w, .int ac, .int wy, .int fa, .int fp])), (q3w, .inr (3, [.ref q3fiw, .ref q3tow, .int thw, .int hew, .int maw, .int row])), (q3fiw, .inl (cI, 12, .inl fiw)), (q3tow, .inl (cI, 12, .inl tow)), (q4im, .inl (cS, 2, .inr (.inr (.inr (.inr im)))))]) (va_runV (As := [.int v2]) (rest := []) ⟨hx, hb, hml, hown, hts⟩ (k_X3_replaceHeld l dC dI cI cZ cS q3 q3fi q3to s.heap.size th he ma ro fi to v2 r_3 he_4 hc_5) (cwV 1 hts (kGood (kgV mG_193 mG_194 mG_195 mG_30 mG_138)) rfl rfl rfl ⟨rfl, hd_X3_replaceHeld⟩ ⟨Nat.le_of_ble_eq_true rfl, Nat.le_of_ble_eq_true rfl⟩) (kpV hK hN (hP.sub (ws' := [(q3, .inr (3, [.ref q3fi, .ref q3to, .int th, .int he, .int ma, .int ro])), (q3fi, .inl (cI, 12, .inl fi)), (q3to, .inl (cI, 12, .inl to))]) [4, 5, 6] rfl) (hD.sub (ws' := [(q3, .inr (3, [.ref q3fi, .ref q3to, .int th, .int he, .int ma, .int ro])), (q3fi, .inl (cI, 12, .inl fi)), (q3to, .inl (cI, 12, .inl to))]) [4, 5, 6] rfl rfl) rfl rfl rfl) rfl rfl hl.1 rfl (lv_room (Nat.le_of_ble_eq_true rfl)) dX4_set_51 ⟨Nat.zero_le _, Nat.zero_le _⟩) hP hD hS hA [4, 5, 6] [0, 1, 2, 3, 7, 8, 9, 10, 11, 12] [0, 1, 2, 3, 10, 11, 12, 4, 5, 6, 7, 8, 9] rfl rfl rfl (by decide) rfl rfl (fun H locs hP hD hS => ?_)
      cases hs
      exact hret _ _ _ _ hP hD hS (vp_nar_int _) dX4_set_54
    · replace hs := if_n c_2 hs
      refine lv_bipush (v := -2) hx hb dX4_set_38 (by decide) ?_
      refine lv_goto (tgt := 54) hx hb dX4_set_40 (by decide) ?_
      cases hs
      exact hret _ _ _ _ hP hD hS (vp_nar_int _) dX4_set_54
  replace hs := if_n c_1 hs
  by_cases c_6 : v1 = (1 : Int32)
  · replace hs := if_p c_6 hs
    refine lv_tableIn (off := 54) (tgt := 55) hx hb dX4_set_1 (by rw [c_6]; decide) (by rw [c_6]; decide) (by rw [c_6]; decide) (by decide) ?_
    refine lv_iload_n hx hb dX4_set_55 rfl (lv_at hl 2 rfl) ?_
    refine lv_iconst (v := 0) hx hb dX4_set_56 (by decide) ?_
    refine lv_bipush (v := 12) hx hb dX4_set_57 (by decide) ?_
    refine kpi (va_runS (As := [.int v2, .int (0 : Int32), .int (12 : Int32)]) (rest := []) ⟨hx, hb, hml, hown, hts⟩ (k_X4_isOutside l v2 (0 : Int32) (12 : Int32) _ rfl) (va_cwS 3 hts (kGood (kgS mG_188 mG_12 mG_13 mG_9)) rfl rfl rfl hd_X4_isOutside ⟨Nat.le_of_ble_eq_true rfl, Nat.le_of_ble_eq_true rfl⟩) preEq rfl rfl hl.1 rfl (lv_room (Nat.le_of_ble_eq_true rfl)) dX4_set_59 ⟨Nat.zero_le _, Nat.zero_le _⟩) ?_
    refine lv_if_eq (tgt := 70) hx hb dX4_set_62 (by decide) (fun c_7 => ?_) (fun c_7 => ?_)
    · replace hs := if_p c_7 hs
      refine lv_aload_n hx hb dX4_set_70 rfl (lv_at hl 0 rfl) ?_
      refine va_get (D := (dC, dI)) (ci := 4) (v := .ref q1) (C := RX4) (T := TX4) (N := 4) hx hb hts (fun w h => kg1 (iG_4 w h)) hown hK hP 0 rfl rfl 1 (by decide) (hts _ (kg1 mG_174)) (fun _ h9 => h9) rfl dX4_set_71 ?_
      refine va_get (D := (dC, dI)) (ci := 1) (v := .ref q3) (C := RX1) (T := TX1) (N := 4) hx hb hts (fun w h => kg1 (iG_1 w h)) hown hK hP 3 rfl rfl 0 (by decide) (hts _ (kg1 mG_185)) (fun _ h9 => h9) rfl dX4_set_74 ?_
      refine lv_iload_n hx hb dX4_set_77 rfl (lv_at hl 2 rfl) ?_
      obtain ⟨r_8, ma_9, hc_10, hs⟩ := ob2_e hs
      refine kci (wr := [(q4, .inr (4, [.ref q0, .ref q1, .ref q2, .ref q4im])), (q0, .inr (0, [.ref q0sg, .int ct])), (q0sg, .inl (cI, 60, .inl sg)), (q1, .inr (1, [.ref q3, .ref q1ne, .int si, .int ft])), (q1ne, .inl (cI, 8, .inl ne)), (q2, .inr (2, [.ref q3w, .int ac, .int wy, .int fa, .int fp])), (q3w, .inr (3, [.ref q3fiw, .ref q3tow, .int thw, .int hew, .int maw, .int row])), (q3fiw, .inl (cI, 12, .inl fiw)), (q3tow, .inl (cI, 12, .inl tow)), (q4im, .inl (cS, 2, .inr (.inr (.inr (.inr im)))))]) (ws' := [(q4, .inr (4, [.ref q0, .ref q1, .ref q2, .ref q4im])), (q0, .inr (0, [.ref q0sg, .int ct])), (q0sg, .inl (cI, 60, .inl sg)), (q1, .inr (1, [.ref q3, .ref q1ne, .int si, .int ft])), (q3, .inr (3, [.ref q3fi, .ref q3to, .int th, .int he, .int ma_9, .int ro])), (q3fi, .inl (cI, 12, .inl fi)), (q3to, .inl (cI, 12, .inl to)), (q1ne, .inl (cI, 8, .inl ne)), (q2, .inr (2, [.ref q3w, .int ac, .int wy, .int fa, .int fp])), (q3w, .inr (3, [.ref q3fiw, .ref q3tow, .int thw, .int hew, .int maw, .int row])), (q3fiw, .inl (cI, 12, .inl fiw)), (q3tow, .inl (cI, 12, .inl tow)), (q4im, .inl (cS, 2, .inr (.inr (.inr (.inr im)))))]) (va_runV (As := [.int v2]) (rest := []) ⟨hx, hb, hml, hown, hts⟩ (k_X3_replaceMasons l dC dI cI cZ cS q3 q3fi q3to s.heap.size th he ma ro fi to v2 r_8 ma_9 hc_10) (cwV 1 hts (kGood (kgV mG_196 mG_197 mG_198 mG_30 mG_139)) rfl rfl rfl ⟨rfl, hd_X3_replaceMasons⟩ ⟨Nat.le_of_ble_eq_true rfl, Nat.le_of_ble_eq_true rfl⟩) (kpV hK hN (hP.sub (ws' := [(q3, .inr (3, [.ref q3fi, .ref q3to, .int th, .int he, .int ma, .int ro])), (q3fi, .inl (cI, 12, .inl fi)), (q3to, .inl (cI, 12, .inl to))]) [4, 5, 6] rfl) (hD.sub (ws' := [(q3, .inr (3, [.ref q3fi, .ref q3to, .int th, .int he, .int ma, .int ro])), (q3fi, .inl (cI, 12, .inl fi)), (q3to, .inl (cI, 12, .inl to))]) [4, 5, 6] rfl rfl) rfl rfl rfl) rfl rfl hl.1 rfl (lv_room (Nat.le_of_ble_eq_true rfl)) dX4_set_78 ⟨Nat.zero_le _, Nat.zero_le _⟩) hP hD hS hA [4, 5, 6] [0, 1, 2, 3, 7, 8, 9, 10, 11, 12] [0, 1, 2, 3, 10, 11, 12, 4, 5, 6, 7, 8, 9] rfl rfl rfl (by decide) rfl rfl (fun H locs hP hD hS => ?_)
      cases hs
      exact hret _ _ _ _ hP hD hS (vp_nar_int _) dX4_set_81
    · replace hs := if_n c_7 hs
      refine lv_bipush (v := -2) hx hb dX4_set_65 (by decide) ?_
      refine lv_goto (tgt := 81) hx hb dX4_set_67 (by decide) ?_
      cases hs
      exact hret _ _ _ _ hP hD hS (vp_nar_int _) dX4_set_81
  replace hs := if_n c_6 hs
  by_cases c_11 : v1 = (2 : Int32)
  · replace hs := if_p c_11 hs
    refine lv_tableIn (off := 81) (tgt := 82) hx hb dX4_set_1 (by rw [c_11]; decide) (by rw [c_11]; decide) (by rw [c_11]; decide) (by decide) ?_
    refine lv_iload_n hx hb dX4_set_82 rfl (lv_at hl 2 rfl) ?_
    refine lv_iconst (v := 0) hx hb dX4_set_83 (by decide) ?_
    refine lv_bipush (v := 99) hx hb dX4_set_84 (by decide) ?_
    refine kpi (va_runS (As := [.int v2, .int (0 : Int32), .int (99 : Int32)]) (rest := []) ⟨hx, hb, hml, hown, hts⟩ (k_X4_isOutside l v2 (0 : Int32) (99 : Int32) _ rfl) (va_cwS 3 hts (kGood (kgS mG_188 mG_12 mG_13 mG_9)) rfl rfl rfl hd_X4_isOutside ⟨Nat.le_of_ble_eq_true rfl, Nat.le_of_ble_eq_true rfl⟩) preEq rfl rfl hl.1 rfl (lv_room (Nat.le_of_ble_eq_true rfl)) dX4_set_86 ⟨Nat.zero_le _, Nat.zero_le _⟩) ?_
    refine lv_if_eq (tgt := 97) hx hb dX4_set_89 (by decide) (fun c_12 => ?_) (fun c_12 => ?_)
    · replace hs := if_p c_12 hs
      refine lv_aload_n hx hb dX4_set_97 rfl (lv_at hl 0 rfl) ?_
      refine va_get (D := (dC, dI)) (ci := 4) (v := .ref q1) (C := RX4) (T := TX4) (N := 4) hx hb hts (fun w h => kg1 (iG_4 w h)) hown hK hP 0 rfl rfl 1 (by decide) (hts _ (kg1 mG_174)) (fun _ h9 => h9) rfl dX4_set_98 ?_
      refine va_get (D := (dC, dI)) (ci := 1) (v := .ref q3) (C := RX1) (T := TX1) (N := 4) hx hb hts (fun w h => kg1 (iG_1 w h)) hown hK hP 3 rfl rfl 0 (by decide) (hts _ (kg1 mG_185)) (fun _ h9 => h9) rfl dX4_set_101 ?_
      refine lv_iload_n hx hb dX4_set_104 rfl (lv_at hl 2 rfl) ?_
      obtain ⟨r_13, ro_14, hc_15, hs⟩ := ob2_e hs
      refine kci (wr := [(q4, .inr (4, [.ref q0, .ref q1, .ref q2, .ref q4im])), (q0, .inr (0, [.ref q0sg, .int ct])), (q0sg, .inl (cI, 60, .inl sg)), (q1, .inr (1, [.ref q3, .ref q1ne, .int si, .int ft])), (q1ne, .inl (cI, 8, .inl ne)), (q2, .inr (2, [.ref q3w, .int ac, .int wy, .int fa, .int fp])), (q3w, .inr (3, [.ref q3fiw, .ref q3tow, .int thw, .int hew, .int maw, .int row])), (q3fiw, .inl (cI, 12, .inl fiw)), (q3tow, .inl (cI, 12, .inl tow)), (q4im, .inl (cS, 2, .inr (.inr (.inr (.inr im)))))]) (ws' := [(q4, .inr (4, [.ref q0, .ref q1, .ref q2, .ref q4im])), (q0, .inr (0, [.ref q0sg, .int ct])), (q0sg, .inl (cI, 60, .inl sg)), (q1, .inr (1, [.ref q3, .ref q1ne, .int si, .int ft])), (q3, .inr (3, [.ref q3fi, .ref q3to, .int th, .int he, .int ma, .int ro_14])), (q3fi, .inl (cI, 12, .inl fi)), (q3to, .inl (cI, 12, .inl to)), (q1ne, .inl (cI, 8, .inl ne)), (q2, .inr (2, [.ref q3w, .int ac, .int wy, .int fa, .int fp])), (q3w, .inr (3, [.ref q3fiw, .ref q3tow, .int thw, .int hew, .int maw, .int row])), (q3fiw, .inl (cI, 12, .inl fiw)), (q3tow, .inl (cI, 12, .inl tow)), (q4im, .inl (cS, 2, .inr (.inr (.inr (.inr im)))))]) (va_runV (As := [.int v2]) (rest := []) ⟨hx, hb, hml, hown, hts⟩ (k_X3_replaceRound l dC dI cI cZ cS q3 q3fi q3to s.heap.size th he ma ro fi to v2 r_13 ro_14 hc_15) (cwV 1 hts (kGood (kgV mG_199 mG_200 mG_201 mG_30 mG_140)) rfl rfl rfl ⟨rfl, hd_X3_replaceRound⟩ ⟨Nat.le_of_ble_eq_true rfl, Nat.le_of_ble_eq_true rfl⟩) (kpV hK hN (hP.sub (ws' := [(q3, .inr (3, [.ref q3fi, .ref q3to, .int th, .int he, .int ma, .int ro])), (q3fi, .inl (cI, 12, .inl fi)), (q3to, .inl (cI, 12, .inl to))]) [4, 5, 6] rfl) (hD.sub (ws' := [(q3, .inr (3, [.ref q3fi, .ref q3to, .int th, .int he, .int ma, .int ro])), (q3fi, .inl (cI, 12, .inl fi)), (q3to, .inl (cI, 12, .inl to))]) [4, 5, 6] rfl rfl) rfl rfl rfl) rfl rfl hl.1 rfl (lv_room (Nat.le_of_ble_eq_true rfl)) dX4_set_105 ⟨Nat.zero_le _, Nat.zero_le _⟩) hP hD hS hA [4, 5, 6] [0, 1, 2, 3, 7, 8, 9, 10, 11, 12] [0, 1, 2, 3, 10, 11, 12, 4, 5, 6, 7, 8, 9] rfl rfl rfl (by decide) rfl rfl (fun H locs hP hD hS => ?_)
      cases hs
      exact hret _ _ _ _ hP hD hS (vp_nar_int _) dX4_set_108
    · replace hs := if_n c_12 hs
      refine lv_bipush (v := -2) hx hb dX4_set_92 (by decide) ?_
      refine lv_goto (tgt := 108) hx hb dX4_set_94 (by decide) ?_
      cases hs
      exact hret _ _ _ _ hP hD hS (vp_nar_int _) dX4_set_108
  replace hs := if_n c_11 hs
  refine lv_tableOut (tgt := 109) hx hb dX4_set_1 (by have := lv_neT c_1 (a := 0) (by decide); have := lv_neT c_6 (a := 1) (by decide); have := lv_neT c_11 (a := 2) (by decide); omega) (by decide) ?_
  refine lv_bipush (v := -2) hx hb dX4_set_109 (by decide) ?_
  cases hs
  exact hret _ _ _ _ hP hD hS (vp_nar_int _) dX4_set_111
abbrev rm_X4_man : Room := { frames := 1, cells := 0, slots := 0, locals := 22 }
theorem hd_X4_man : yX4_man.cls ≠ "java/lang/invoke/MethodHandle" ∧ yX4_man.cls ≠ "java/lang/invoke/VarHandle" ∧ (parseMethodDescriptor yX4_man.desc).map (fun d => d.parameters.length) = some 2 := by decide +kernel
set_option maxHeartbeats 4000000 in
set_option maxRecDepth 100000 in
theorem k_X4_man (l : Launch) (dC : Nat → ClassId) (dI : Nat → Nat → Nat) (cI cZ cS : ClassId) (q4 q0 q0sg q1 q3 q3fi q3to q1ne q2 q3w q3fiw q3tow q4im : Nat) (sz : Nat) (ct : Int32) (sg : Ar) (si : Int32) (ft : Int32) (th : Int32) (he : Int32) (ma : Int32) (ro : Int32) (fi : Ar) (to : Ar) (ne : Ar) (ac : Int32) (wy : Int32) (fa : Int32) (fp : Int32) (thw : Int32) (hew : Int32) (maw : Int32) (row : Int32) (fiw : Ar) (tow : Ar) (im : Nat → Option Nat) (v1 : Int32) (v2 : Int32) (r0 : Int32) (ne_o : Ar) (hs : m_X4_man v1 v2 ne = some (r0, ne_o)) : Met l yX4_man (.code yX4_man cX4_man 4 (some .int) :: kG) rm_X4_man (va_Pc [.ref q4, .int v1, .int v2] (kW (dC, dI) cI cZ cS [(q4, .inr (4, [.ref q0, .ref q1, .ref q2, .ref q4im])), (q0, .inr (0, [.ref q0sg, .int ct])), (q0sg, .inl (cI, 60, .inl sg)), (q1, .inr (1, [.ref q3, .ref q1ne, .int si, .int ft])), (q3, .inr (3, [.ref q3fi, .ref q3to, .int th, .int he, .int ma, .int ro])), (q3fi, .inl (cI, 12, .inl fi)), (q3to, .inl (cI, 12, .inl to)), (q1ne, .inl (cI, 8, .inl ne)), (q2, .inr (2, [.ref q3w, .int ac, .int wy, .int fa, .int fp])), (q3w, .inr (3, [.ref q3fiw, .ref q3tow, .int thw, .int hew, .int maw, .int row])), (q3fiw, .inl (cI, 12, .inl fiw)), (q3tow, .inl (cI, 12, .inl tow)), (q4im, .inl (cS, 2, .inr (.inr (.inr (.inr im)))))] sz)) (kQi (dC, dI) [(q4, .inr (4, [.ref q0, .ref q1, .ref q2, .ref q4im])), (q0, .inr (0, [.ref q0sg, .int ct])), (q0sg, .inl (cI, 60, .inl sg)), (q1, .inr (1, [.ref q3, .ref q1ne, .int si, .int ft])), (q3, .inr (3, [.ref q3fi, .ref q3to, .int th, .int he, .int ma, .int ro])), (q3fi, .inl (cI, 12, .inl fi)), (q3to, .inl (cI, 12, .inl to)), (q1ne, .inl (cI, 8, .inl ne)), (q2, .inr (2, [.ref q3w, .int ac, .int wy, .int fa, .int fp])), (q3w, .inr (3, [.ref q3fiw, .ref q3tow, .int thw, .int hew, .int maw, .int row])), (q3fiw, .inl (cI, 12, .inl fiw)), (q3tow, .inl (cI, 12, .inl tow)), (q4im, .inl (cS, 2, .inr (.inr (.inr (.inr im)))))] [(q4, .inr (4, [.ref q0, .ref q1, .ref q2, .ref q4im])), (q0, .inr (0, [.ref q0sg, .int ct])), (q0sg, .inl (cI, 60, .inl sg)), (q1, .inr (1, [.ref q3, .ref q1ne, .int si, .int ft])), (q3, .inr (3, [.ref q3fi, .ref q3to, .int th, .int he, .int ma, .int ro])), (q3fi, .inl (cI, 12, .inl fi)), (q3to, .inl (cI, 12, .inl to)), (q1ne, .inl (cI, 8, .inl ne_o)), (q2, .inr (2, [.ref q3w, .int ac, .int wy, .int fa, .int fp])), (q3w, .inr (3, [.ref q3fiw, .ref q3tow, .int thw, .int hew, .int maw, .int row])), (q3fiw, .inl (cI, 12, .inl fiw)), (q3tow, .inl (cI, 12, .inl tow)), (q4im, .inl (cS, 2, .inr (.inr (.inr (.inr im)))))] sz r0) 0 0 (va_A [(q4, .inr (4, [.ref q0, .ref q1, .ref q2, .ref q4im])), (q0, .inr (0, [.ref q0sg, .int ct])), (q0sg, .inl (cI, 60, .inl sg)), (q1, .inr (1, [.ref q3, .ref q1ne, .int si, .int ft])), (q3, .inr (3, [.ref q3fi, .ref q3to, .int th, .int he, .int ma, .int ro])), (q3fi, .inl (cI, 12, .inl fi)), (q3to, .inl (cI, 12, .inl to)), (q1ne, .inl (cI, 8, .inl ne)), (q2, .inr (2, [.ref q3w, .int ac, .int wy, .int fa, .int fp])), (q3w, .inr (3, [.ref q3fiw, .ref q3tow, .int thw, .int hew, .int maw, .int row])), (q3fiw, .inl (cI, 12, .inl fiw)), (q3tow, .inl (cI, 12, .inl tow)), (q4im, .inl (cS, 2, .inr (.inr (.inr (.inr im)))))] sz) := by
  refine kMi (own := RX4) (ty := .int) rfl (by decide) rfl ?_ (Nat.le_of_ble_eq_true rfl)
  intro p e s m args below meth c Q A CF hK hN hA hP hD hret ls hl
  have hS : va_S A s.heap s.heap [] := va_S.rf
  obtain ⟨hx, hb, hml, hown, hts⟩ := id CF
  have hl : lv_has ls 4 [(0, .ref q4), (1, .int v1), (2, .int v2)] := hl
  unfold m_X4_man at hs
  refine lv_iload_n hx hb dX4_man_0 rfl (lv_at hl 1 rfl) ?_
  refine lv_iconst (v := 0) hx hb dX4_man_1 (by decide) ?_
  refine lv_bipush (v := 7) hx hb dX4_man_2 (by decide) ?_
  refine kpi (va_runS (As := [.int v1, .int (0 : Int32), .int (7 : Int32)]) (rest := []) ⟨hx, hb, hml, hown, hts⟩ (k_X4_isOutside l v1 (0 : Int32) (7 : Int32) _ rfl) (va_cwS 3 hts (kGood (kgS mG_188 mG_12 mG_13 mG_9)) rfl rfl rfl hd_X4_isOutside ⟨Nat.le_of_ble_eq_true rfl, Nat.le_of_ble_eq_true rfl⟩) preEq rfl rfl hl.1 rfl (lv_room (Nat.le_of_ble_eq_true rfl)) dX4_man_4 ⟨Nat.zero_le _, Nat.zero_le _⟩) ?_
  refine lv_if_eq (tgt := 12) hx hb dX4_man_7 (by decide) (fun c_1 => ?_) (fun c_1 => ?_)
  · replace hs := if_p c_1 hs
    refine lv_iload_n hx hb dX4_man_12 rfl (lv_at hl 2 rfl) ?_
    refine lv_iconst (v := 0) hx hb dX4_man_13 (by decide) ?_
    refine lv_bipush (v := 8) hx hb dX4_man_14 (by decide) ?_
    refine kpi (va_runS (As := [.int v2, .int (0 : Int32), .int (8 : Int32)]) (rest := []) ⟨hx, hb, hml, hown, hts⟩ (k_X4_isOutside l v2 (0 : Int32) (8 : Int32) _ rfl) (va_cwS 3 hts (kGood (kgS mG_188 mG_12 mG_13 mG_9)) rfl rfl rfl hd_X4_isOutside ⟨Nat.le_of_ble_eq_true rfl, Nat.le_of_ble_eq_true rfl⟩) preEq rfl rfl hl.1 rfl (lv_room (Nat.le_of_ble_eq_true rfl)) dX4_man_16 ⟨Nat.zero_le _, Nat.zero_le _⟩) ?_
    refine lv_if_eq (tgt := 25) hx hb dX4_man_19 (by decide) (fun c_2 => ?_) (fun c_2 => ?_)
    · replace hs := if_p c_2 hs
      refine lv_aload_n hx hb dX4_man_25 rfl (lv_at hl 0 rfl) ?_
      refine va_get (D := (dC, dI)) (ci := 4) (v := .ref q1) (C := RX4) (T := TX4) (N := 4) hx hb hts (fun w h => kg1 (iG_4 w h)) hown hK hP 0 rfl rfl 1 (by decide) (hts _ (kg1 mG_174)) (fun _ h9 => h9) rfl dX4_man_26 ?_
      refine va_get (D := (dC, dI)) (ci := 1) (v := .ref q1ne) (C := RX1) (T := TX1) (N := 4) hx hb hts (fun w h => kg1 (iG_1 w h)) hown hK hP 3 rfl rfl 1 (by decide) (hts _ (kg1 mG_203)) (fun _ h9 => h9) rfl dX4_man_29 ?_
      refine lv_iload_n hx hb dX4_man_32 rfl (lv_at hl 1 rfl) ?_
      obtain ⟨hg_3, hs⟩ := gd_e hs
      refine kald hx hb hK hP 7 0 rfl rfl (j := (Int32.toNatClampNeg v1)) rfl (inb_e hg_3) dX4_man_33 ?_
      refine lv_istore_n (lv' := [(3, .int (ne (Int32.toNatClampNeg v1))), (0, .ref q4), (1, .int v1), (2, .int v2)]) hx hb dX4_man_34 rfl hl (by decide) rfl (fun ls hl => ?_)
      refine lv_aload_n hx hb dX4_man_35 rfl (lv_at hl 1 rfl) ?_
      refine va_get (D := (dC, dI)) (ci := 4) (v := .ref q1) (C := RX4) (T := TX4) (N := 4) hx hb hts (fun w h => kg1 (iG_4 w h)) hown hK hP 0 rfl rfl 1 (by decide) (hts _ (kg1 mG_174)) (fun _ h9 => h9) rfl dX4_man_36 ?_
      refine va_get (D := (dC, dI)) (ci := 1) (v := .ref q1ne) (C := RX1) (T := TX1) (N := 4) hx hb hts (fun w h => kg1 (iG_1 w h)) hown hK hP 3 rfl rfl 1 (by decide) (hts _ (kg1 mG_203)) (fun _ h9 => h9) rfl dX4_man_39 ?_
      refine lv_iload_n hx hb dX4_man_42 rfl (lv_at hl 2 rfl) ?_
      refine lv_iload_n hx hb dX4_man_43 rfl (lv_at hl 3 rfl) ?_
      refine kast hx hb hK hP hD hS 7 0 rfl rfl (j := (Int32.toNatClampNeg v1)) rfl (inb_e hg_3) dX4_man_44 (fun H locs hP hD hS => ?_)
      have hP : va_P (dC, dI) vwCl [(q4, .inr (4, [.ref q0, .ref q1, .ref q2, .ref q4im])), (q0, .inr (0, [.ref q0sg, .int ct])), (q0sg, .inl (cI, 60, .inl sg)), (q1, .inr (1, [.ref q3, .ref q1ne, .int si, .int ft])), (q3, .inr (3, [.ref q3fi, .ref q3to, .int th, .int he, .int ma, .int ro])), (q3fi, .inl (cI, 12, .inl fi)), (q3to, .inl (cI, 12, .inl to)), (q1ne, .inl (cI, 8, .inl (upd ne (Int32.toNatClampNeg v1) v2))), (q2, .inr (2, [.ref q3w, .int ac, .int wy, .int fa, .int fp])), (q3w, .inr (3, [.ref q3fiw, .ref q3tow, .int thw, .int hew, .int maw, .int row])), (q3fiw, .inl (cI, 12, .inl fiw)), (q3tow, .inl (cI, 12, .inl tow)), (q4im, .inl (cS, 2, .inr (.inr (.inr (.inr im)))))] H := hP
      have hD : va_D A [(q4, .inr (4, [.ref q0, .ref q1, .ref q2, .ref q4im])), (q0, .inr (0, [.ref q0sg, .int ct])), (q0sg, .inl (cI, 60, .inl sg)), (q1, .inr (1, [.ref q3, .ref q1ne, .int si, .int ft])), (q3, .inr (3, [.ref q3fi, .ref q3to, .int th, .int he, .int ma, .int ro])), (q3fi, .inl (cI, 12, .inl fi)), (q3to, .inl (cI, 12, .inl to)), (q1ne, .inl (cI, 8, .inl (upd ne (Int32.toNatClampNeg v1) v2))), (q2, .inr (2, [.ref q3w, .int ac, .int wy, .int fa, .int fp])), (q3w, .inr (3, [.ref q3fiw, .ref q3tow, .int thw, .int hew, .int maw, .int row])), (q3fiw, .inl (cI, 12, .inl fiw)), (q3tow, .inl (cI, 12, .inl tow)), (q4im, .inl (cS, 2, .inr (.inr (.inr (.inr im)))))] := hD
      refine lv_iload_n hx hb dX4_man_45 rfl (lv_at hl 0 rfl) ?_
      cases hs
      exact hret _ _ _ _ hP hD hS (vp_nar_int _) dX4_man_46
    · replace hs := if_n c_2 hs
      refine lv_bipush (v := -2) hx hb dX4_man_22 (by decide) ?_
      cases hs
      exact hret _ _ _ _ hP hD hS (vp_nar_int _) dX4_man_24
  · replace hs := if_n c_1 hs
    refine lv_iconst (v := -1) hx hb dX4_man_10 (by decide) ?_
    cases hs
    exact hret _ _ _ _ hP hD hS (vp_nar_int _) dX4_man_11
abbrev rm_X4_say : Room := { frames := 1, cells := 0, slots := 0, locals := 22 }
theorem hd_X4_say : yX4_say.cls ≠ "java/lang/invoke/MethodHandle" ∧ yX4_say.cls ≠ "java/lang/invoke/VarHandle" ∧ (parseMethodDescriptor yX4_say.desc).map (fun d => d.parameters.length) = some 1 := by decide +kernel
set_option maxHeartbeats 4000000 in
set_option maxRecDepth 100000 in
theorem k_X4_say (l : Launch) (dC : Nat → ClassId) (dI : Nat → Nat → Nat) (cI cZ cS : ClassId) (q4 q0 q0sg q1 q3 q3fi q3to q1ne q2 q3w q3fiw q3tow q4im : Nat) (sz : Nat) (ct : Int32) (sg : Ar) (si : Int32) (ft : Int32) (th : Int32) (he : Int32) (ma : Int32) (ro : Int32) (fi : Ar) (to : Ar) (ne : Ar) (ac : Int32) (wy : Int32) (fa : Int32) (fp : Int32) (thw : Int32) (hew : Int32) (maw : Int32) (row : Int32) (fiw : Ar) (tow : Ar) (im : Nat → Option Nat) (v1 : Int32) (r0 : Int32) (ct_o : Int32) (sg_o : Ar) (hs : m_X4_say v1 ct sg = some (r0, ct_o, sg_o)) : Met l yX4_say (.code yX4_say cX4_say 2 (some .int) :: kG) rm_X4_say (va_Pc [.ref q4, .int v1] (kW (dC, dI) cI cZ cS [(q4, .inr (4, [.ref q0, .ref q1, .ref q2, .ref q4im])), (q0, .inr (0, [.ref q0sg, .int ct])), (q0sg, .inl (cI, 60, .inl sg)), (q1, .inr (1, [.ref q3, .ref q1ne, .int si, .int ft])), (q3, .inr (3, [.ref q3fi, .ref q3to, .int th, .int he, .int ma, .int ro])), (q3fi, .inl (cI, 12, .inl fi)), (q3to, .inl (cI, 12, .inl to)), (q1ne, .inl (cI, 8, .inl ne)), (q2, .inr (2, [.ref q3w, .int ac, .int wy, .int fa, .int fp])), (q3w, .inr (3, [.ref q3fiw, .ref q3tow, .int thw, .int hew, .int maw, .int row])), (q3fiw, .inl (cI, 12, .inl fiw)), (q3tow, .inl (cI, 12, .inl tow)), (q4im, .inl (cS, 2, .inr (.inr (.inr (.inr im)))))] sz)) (kQi (dC, dI) [(q4, .inr (4, [.ref q0, .ref q1, .ref q2, .ref q4im])), (q0, .inr (0, [.ref q0sg, .int ct])), (q0sg, .inl (cI, 60, .inl sg)), (q1, .inr (1, [.ref q3, .ref q1ne, .int si, .int ft])), (q3, .inr (3, [.ref q3fi, .ref q3to, .int th, .int he, .int ma, .int ro])), (q3fi, .inl (cI, 12, .inl fi)), (q3to, .inl (cI, 12, .inl to)), (q1ne, .inl (cI, 8, .inl ne)), (q2, .inr (2, [.ref q3w, .int ac, .int wy, .int fa, .int fp])), (q3w, .inr (3, [.ref q3fiw, .ref q3tow, .int thw, .int hew, .int maw, .int row])), (q3fiw, .inl (cI, 12, .inl fiw)), (q3tow, .inl (cI, 12, .inl tow)), (q4im, .inl (cS, 2, .inr (.inr (.inr (.inr im)))))] [(q4, .inr (4, [.ref q0, .ref q1, .ref q2, .ref q4im])), (q0, .inr (0, [.ref q0sg, .int ct_o])), (q0sg, .inl (cI, 60, .inl sg_o)), (q1, .inr (1, [.ref q3, .ref q1ne, .int si, .int ft])), (q3, .inr (3, [.ref q3fi, .ref q3to, .int th, .int he, .int ma, .int ro])), (q3fi, .inl (cI, 12, .inl fi)), (q3to, .inl (cI, 12, .inl to)), (q1ne, .inl (cI, 8, .inl ne)), (q2, .inr (2, [.ref q3w, .int ac, .int wy, .int fa, .int fp])), (q3w, .inr (3, [.ref q3fiw, .ref q3tow, .int thw, .int hew, .int maw, .int row])), (q3fiw, .inl (cI, 12, .inl fiw)), (q3tow, .inl (cI, 12, .inl tow)), (q4im, .inl (cS, 2, .inr (.inr (.inr (.inr im)))))] sz r0) 0 0 (va_A [(q4, .inr (4, [.ref q0, .ref q1, .ref q2, .ref q4im])), (q0, .inr (0, [.ref q0sg, .int ct])), (q0sg, .inl (cI, 60, .inl sg)), (q1, .inr (1, [.ref q3, .ref q1ne, .int si, .int ft])), (q3, .inr (3, [.ref q3fi, .ref q3to, .int th, .int he, .int ma, .int ro])), (q3fi, .inl (cI, 12, .inl fi)), (q3to, .inl (cI, 12, .inl to)), (q1ne, .inl (cI, 8, .inl ne)), (q2, .inr (2, [.ref q3w, .int ac, .int wy, .int fa, .int fp])), (q3w, .inr (3, [.ref q3fiw, .ref q3tow, .int thw, .int hew, .int maw, .int row])), (q3fiw, .inl (cI, 12, .inl fiw)), (q3tow, .inl (cI, 12, .inl tow)), (q4im, .inl (cS, 2, .inr (.inr (.inr (.inr im)))))] sz) := by
  refine kMi (own := RX4) (ty := .int) rfl (by decide) rfl ?_ (Nat.le_of_ble_eq_true rfl)
  intro p e s m args below meth c Q A CF hK hN hA hP hD hret ls hl
  have hS : va_S A s.heap s.heap [] := va_S.rf
  obtain ⟨hx, hb, hml, hown, hts⟩ := id CF
  have hl : lv_has ls 2 [(0, .ref q4), (1, .int v1)] := hl
  unfold m_X4_say at hs
  refine lv_iload_n hx hb dX4_say_0 rfl (lv_at hl 1 rfl) ?_
  refine lv_bipush (v := 33) hx hb dX4_say_1 (by decide) ?_
  refine lv_bipush (v := 126) hx hb dX4_say_3 (by decide) ?_
  refine kpi (va_runS (As := [.int v1, .int (33 : Int32), .int (126 : Int32)]) (rest := []) ⟨hx, hb, hml, hown, hts⟩ (k_X4_isOutside l v1 (33 : Int32) (126 : Int32) _ rfl) (va_cwS 3 hts (kGood (kgS mG_188 mG_12 mG_13 mG_9)) rfl rfl rfl hd_X4_isOutside ⟨Nat.le_of_ble_eq_true rfl, Nat.le_of_ble_eq_true rfl⟩) preEq rfl rfl hl.1 rfl (lv_room (Nat.le_of_ble_eq_true rfl)) dX4_say_5 ⟨Nat.zero_le _, Nat.zero_le _⟩) ?_
  refine lv_if_eq (tgt := 14) hx hb dX4_say_8 (by decide) (fun c_1 => ?_) (fun c_1 => ?_)
  · replace hs := if_p c_1 hs
    refine lv_aload_n hx hb dX4_say_14 rfl (lv_at hl 0 rfl) ?_
    refine va_get (D := (dC, dI)) (ci := 4) (v := .ref q0) (C := RX4) (T := TX4) (N := 4) hx hb hts (fun w h => kg1 (iG_4 w h)) hown hK hP 0 rfl rfl 0 (by decide) (hts _ (kg1 mG_171)) (fun _ h9 => h9) rfl dX4_say_15 ?_
    refine lv_iload_n hx hb dX4_say_18 rfl (lv_at hl 1 rfl) ?_
    obtain ⟨r_2, ct_3, sg_4, hc_5, hs⟩ := ob3_e hs
    refine kci (wr := [(q4, .inr (4, [.ref q0, .ref q1, .ref q2, .ref q4im])), (q1, .inr (1, [.ref q3, .ref q1ne, .int si, .int ft])), (q3, .inr (3, [.ref q3fi, .ref q3to, .int th, .int he, .int ma, .int ro])), (q3fi, .inl (cI, 12, .inl fi)), (q3to, .inl (cI, 12, .inl to)), (q1ne, .inl (cI, 8, .inl ne)), (q2, .inr (2, [.ref q3w, .int ac, .int wy, .int fa, .int fp])), (q3w, .inr (3, [.ref q3fiw, .ref q3tow, .int thw, .int hew, .int maw, .int row])), (q3fiw, .inl (cI, 12, .inl fiw)), (q3tow, .inl (cI, 12, .inl tow)), (q4im, .inl (cS, 2, .inr (.inr (.inr (.inr im)))))]) (ws' := [(q4, .inr (4, [.ref q0, .ref q1, .ref q2, .ref q4im])), (q0, .inr (0, [.ref q0sg, .int ct_3])), (q0sg, .inl (cI, 60, .inl sg_4)), (q1, .inr (1, [.ref q3, .ref q1ne, .int si, .int ft])), (q3, .inr (3, [.ref q3fi, .ref q3to, .int th, .int he, .int ma, .int ro])), (q3fi, .inl (cI, 12, .inl fi)), (q3to, .inl (cI, 12, .inl to)), (q1ne, .inl (cI, 8, .inl ne)), (q2, .inr (2, [.ref q3w, .int ac, .int wy, .int fa, .int fp])), (q3w, .inr (3, [.ref q3fiw, .ref q3tow, .int thw, .int hew, .int maw, .int row])), (q3fiw, .inl (cI, 12, .inl fiw)), (q3tow, .inl (cI, 12, .inl tow)), (q4im, .inl (cS, 2, .inr (.inr (.inr (.inr im)))))]) (va_runV (As := [.int v1]) (rest := []) ⟨hx, hb, hml, hown, hts⟩ (k_X0_write l dC dI cI cZ cS q0 q0sg s.heap.size ct sg v1 r_2 ct_3 sg_4 hc_5) (cwV 1 hts (kGood (kgV mG_206 mG_207 mG_208 mG_16 mG_6)) rfl rfl rfl ⟨rfl, hd_X0_write⟩ ⟨Nat.le_of_ble_eq_true rfl, Nat.le_of_ble_eq_true rfl⟩) (kpV hK hN (hP.sub (ws' := [(q0, .inr (0, [.ref q0sg, .int ct])), (q0sg, .inl (cI, 60, .inl sg))]) [1, 2] rfl) (hD.sub (ws' := [(q0, .inr (0, [.ref q0sg, .int ct])), (q0sg, .inl (cI, 60, .inl sg))]) [1, 2] rfl rfl) rfl rfl rfl) rfl rfl hl.1 rfl (lv_room (Nat.le_of_ble_eq_true rfl)) dX4_say_19 ⟨Nat.zero_le _, Nat.zero_le _⟩) hP hD hS hA [1, 2] [0, 3, 4, 5, 6, 7, 8, 9, 10, 11, 12] [0, 11, 12, 1, 2, 3, 4, 5, 6, 7, 8, 9, 10] rfl rfl rfl (by decide) rfl rfl (fun H locs hP hD hS => ?_)
    refine lv_if_eq (tgt := 35) hx hb dX4_say_22 (by decide) (fun c_6 => ?_) (fun c_6 => ?_)
    · replace hs := if_p c_6 hs
      refine lv_bipush (v := -4) hx hb dX4_say_35 (by decide) ?_
      cases hs
      exact hret _ _ _ _ hP hD hS (vp_nar_int _) dX4_say_37
    · replace hs := if_n c_6 hs
      refine lv_aload_n hx hb dX4_say_25 rfl (lv_at hl 0 rfl) ?_
      refine va_get (D := (dC, dI)) (ci := 4) (v := .ref q0) (C := RX4) (T := TX4) (N := 4) hx hb hts (fun w h => kg1 (iG_4 w h)) hown hK hP 0 rfl rfl 0 (by decide) (hts _ (kg1 mG_171)) (fun _ h9 => h9) rfl dX4_say_26 ?_
      refine va_get (D := (dC, dI)) (ci := 0) (v := .int ct_3) (C := RX0) (T := TX0) (N := 2) hx hb hts (fun w h => kg1 (iG_0 w h)) hown hK hP 1 rfl rfl 1 (by decide) (hts _ (kg1 mG_205)) (fun _ h9 => h9) rfl dX4_say_29 ?_
      refine lv_goto (tgt := 37) hx hb dX4_say_32 (by decide) ?_
      cases hs
      exact hret _ _ _ _ hP hD hS (vp_nar_int _) dX4_say_37
  · replace hs := if_n c_1 hs
    refine lv_bipush (v := -2) hx hb dX4_say_11 (by decide) ?_
    cases hs
    exact hret _ _ _ _ hP hD hS (vp_nar_int _) dX4_say_13
abbrev rm_X4_wipe : Room := { frames := 1, cells := 0, slots := 0, locals := 21 }
theorem hd_X4_wipe : yX4_wipe.cls ≠ "java/lang/invoke/MethodHandle" ∧ yX4_wipe.cls ≠ "java/lang/invoke/VarHandle" ∧ (parseMethodDescriptor yX4_wipe.desc).map (fun d => d.parameters.length) = some 0 := by decide +kernel
set_option maxHeartbeats 4000000 in
set_option maxRecDepth 100000 in
theorem k_X4_wipe (l : Launch) (dC : Nat → ClassId) (dI : Nat → Nat → Nat) (cI cZ cS : ClassId) (q4 q0 q0sg q1 q3 q3fi q3to q1ne q2 q3w q3fiw q3tow q4im : Nat) (sz : Nat) (ct : Int32) (sg : Ar) (si : Int32) (ft : Int32) (th : Int32) (he : Int32) (ma : Int32) (ro : Int32) (fi : Ar) (to : Ar) (ne : Ar) (ac : Int32) (wy : Int32) (fa : Int32) (fp : Int32) (thw : Int32) (hew : Int32) (maw : Int32) (row : Int32) (fiw : Ar) (tow : Ar) (im : Nat → Option Nat)  (r0 : Int32) (ct_o : Int32) (hs : m_X4_wipe ct = some (r0, ct_o)) : Met l yX4_wipe (.code yX4_wipe cX4_wipe 1 (some .int) :: kG) rm_X4_wipe (va_Pc [.ref q4] (kW (dC, dI) cI cZ cS [(q4, .inr (4, [.ref q0, .ref q1, .ref q2, .ref q4im])), (q0, .inr (0, [.ref q0sg, .int ct])), (q0sg, .inl (cI, 60, .inl sg)), (q1, .inr (1, [.ref q3, .ref q1ne, .int si, .int ft])), (q3, .inr (3, [.ref q3fi, .ref q3to, .int th, .int he, .int ma, .int ro])), (q3fi, .inl (cI, 12, .inl fi)), (q3to, .inl (cI, 12, .inl to)), (q1ne, .inl (cI, 8, .inl ne)), (q2, .inr (2, [.ref q3w, .int ac, .int wy, .int fa, .int fp])), (q3w, .inr (3, [.ref q3fiw, .ref q3tow, .int thw, .int hew, .int maw, .int row])), (q3fiw, .inl (cI, 12, .inl fiw)), (q3tow, .inl (cI, 12, .inl tow)), (q4im, .inl (cS, 2, .inr (.inr (.inr (.inr im)))))] sz)) (kQi (dC, dI) [(q4, .inr (4, [.ref q0, .ref q1, .ref q2, .ref q4im])), (q0, .inr (0, [.ref q0sg, .int ct])), (q0sg, .inl (cI, 60, .inl sg)), (q1, .inr (1, [.ref q3, .ref q1ne, .int si, .int ft])), (q3, .inr (3, [.ref q3fi, .ref q3to, .int th, .int he, .int ma, .int ro])), (q3fi, .inl (cI, 12, .inl fi)), (q3to, .inl (cI, 12, .inl to)), (q1ne, .inl (cI, 8, .inl ne)), (q2, .inr (2, [.ref q3w, .int ac, .int wy, .int fa, .int fp])), (q3w, .inr (3, [.ref q3fiw, .ref q3tow, .int thw, .int hew, .int maw, .int row])), (q3fiw, .inl (cI, 12, .inl fiw)), (q3tow, .inl (cI, 12, .inl tow)), (q4im, .inl (cS, 2, .inr (.inr (.inr (.inr im)))))] [(q4, .inr (4, [.ref q0, .ref q1, .ref q2, .ref q4im])), (q0, .inr (0, [.ref q0sg, .int ct_o])), (q0sg, .inl (cI, 60, .inl sg)), (q1, .inr (1, [.ref q3, .ref q1ne, .int si, .int ft])), (q3, .inr (3, [.ref q3fi, .ref q3to, .int th, .int he, .int ma, .int ro])), (q3fi, .inl (cI, 12, .inl fi)), (q3to, .inl (cI, 12, .inl to)), (q1ne, .inl (cI, 8, .inl ne)), (q2, .inr (2, [.ref q3w, .int ac, .int wy, .int fa, .int fp])), (q3w, .inr (3, [.ref q3fiw, .ref q3tow, .int thw, .int hew, .int maw, .int row])), (q3fiw, .inl (cI, 12, .inl fiw)), (q3tow, .inl (cI, 12, .inl tow)), (q4im, .inl (cS, 2, .inr (.inr (.inr (.inr im)))))] sz r0) 0 0 (va_A [(q4, .inr (4, [.ref q0, .ref q1, .ref q2, .ref q4im])), (q0, .inr (0, [.ref q0sg, .int ct])), (q0sg, .inl (cI, 60, .inl sg)), (q1, .inr (1, [.ref q3, .ref q1ne, .int si, .int ft])), (q3, .inr (3, [.ref q3fi, .ref q3to, .int th, .int he, .int ma, .int ro])), (q3fi, .inl (cI, 12, .inl fi)), (q3to, .inl (cI, 12, .inl to)), (q1ne, .inl (cI, 8, .inl ne)), (q2, .inr (2, [.ref q3w, .int ac, .int wy, .int fa, .int fp])), (q3w, .inr (3, [.ref q3fiw, .ref q3tow, .int thw, .int hew, .int maw, .int row])), (q3fiw, .inl (cI, 12, .inl fiw)), (q3tow, .inl (cI, 12, .inl tow)), (q4im, .inl (cS, 2, .inr (.inr (.inr (.inr im)))))] sz) := by
  refine kMi (own := RX4) (ty := .int) rfl (by decide) rfl ?_ (Nat.le_of_ble_eq_true rfl)
  intro p e s m args below meth c Q A CF hK hN hA hP hD hret ls hl
  have hS : va_S A s.heap s.heap [] := va_S.rf
  obtain ⟨hx, hb, hml, hown, hts⟩ := id CF
  have hl : lv_has ls 1 [(0, .ref q4)] := hl
  unfold m_X4_wipe at hs
  refine lv_aload_n hx hb dX4_wipe_0 rfl (lv_at hl 0 rfl) ?_
  refine va_get (D := (dC, dI)) (ci := 4) (v := .ref q0) (C := RX4) (T := TX4) (N := 4) hx hb hts (fun w h => kg1 (iG_4 w h)) hown hK hP 0 rfl rfl 0 (by decide) (hts _ (kg1 mG_171)) (fun _ h9 => h9) rfl dX4_wipe_1 ?_
  obtain ⟨r_1, ct_2, hc_3, hs⟩ := ob2_e hs
  refine kci (wr := [(q4, .inr (4, [.ref q0, .ref q1, .ref q2, .ref q4im])), (q1, .inr (1, [.ref q3, .ref q1ne, .int si, .int ft])), (q3, .inr (3, [.ref q3fi, .ref q3to, .int th, .int he, .int ma, .int ro])), (q3fi, .inl (cI, 12, .inl fi)), (q3to, .inl (cI, 12, .inl to)), (q1ne, .inl (cI, 8, .inl ne)), (q2, .inr (2, [.ref q3w, .int ac, .int wy, .int fa, .int fp])), (q3w, .inr (3, [.ref q3fiw, .ref q3tow, .int thw, .int hew, .int maw, .int row])), (q3fiw, .inl (cI, 12, .inl fiw)), (q3tow, .inl (cI, 12, .inl tow)), (q4im, .inl (cS, 2, .inr (.inr (.inr (.inr im)))))]) (ws' := [(q4, .inr (4, [.ref q0, .ref q1, .ref q2, .ref q4im])), (q0, .inr (0, [.ref q0sg, .int ct_2])), (q0sg, .inl (cI, 60, .inl sg)), (q1, .inr (1, [.ref q3, .ref q1ne, .int si, .int ft])), (q3, .inr (3, [.ref q3fi, .ref q3to, .int th, .int he, .int ma, .int ro])), (q3fi, .inl (cI, 12, .inl fi)), (q3to, .inl (cI, 12, .inl to)), (q1ne, .inl (cI, 8, .inl ne)), (q2, .inr (2, [.ref q3w, .int ac, .int wy, .int fa, .int fp])), (q3w, .inr (3, [.ref q3fiw, .ref q3tow, .int thw, .int hew, .int maw, .int row])), (q3fiw, .inl (cI, 12, .inl fiw)), (q3tow, .inl (cI, 12, .inl tow)), (q4im, .inl (cS, 2, .inr (.inr (.inr (.inr im)))))]) (va_runV (As := []) (rest := []) ⟨hx, hb, hml, hown, hts⟩ (k_X0_clean l dC dI cI cZ cS q0 q0sg s.heap.size ct sg r_1 ct_2 hc_3) (cwV 0 hts (kGood (kgV mG_210 mG_211 mG_212 mG_16 mG_8)) rfl rfl rfl ⟨rfl, hd_X0_clean⟩ ⟨Nat.le_of_ble_eq_true rfl, Nat.le_of_ble_eq_true rfl⟩) (kpV hK hN (hP.sub (ws' := [(q0, .inr (0, [.ref q0sg, .int ct])), (q0sg, .inl (cI, 60, .inl sg))]) [1, 2] rfl) (hD.sub (ws' := [(q0, .inr (0, [.ref q0sg, .int ct])), (q0sg, .inl (cI, 60, .inl sg))]) [1, 2] rfl rfl) rfl rfl rfl) rfl rfl hl.1 rfl (lv_room (Nat.le_of_ble_eq_true rfl)) dX4_wipe_4 ⟨Nat.zero_le _, Nat.zero_le _⟩) hP hD hS hA [1, 2] [0, 3, 4, 5, 6, 7, 8, 9, 10, 11, 12] [0, 11, 12, 1, 2, 3, 4, 5, 6, 7, 8, 9, 10] rfl rfl rfl (by decide) rfl rfl (fun H locs hP hD hS => ?_)
  cases hs
  exact hret _ _ _ _ hP hD hS (vp_nar_int _) dX4_wipe_7
abbrev rm_X4_fault : Room := { frames := 2, cells := 0, slots := 0, locals := 45 }
theorem hd_X4_fault : yX4_fault.cls ≠ "java/lang/invoke/MethodHandle" ∧ yX4_fault.cls ≠ "java/lang/invoke/VarHandle" ∧ (parseMethodDescriptor yX4_fault.desc).map (fun d => d.parameters.length) = some 0 := by decide +kernel
set_option maxHeartbeats 4000000 in
set_option maxRecDepth 100000 in
theorem k_X4_fault (l : Launch) (dC : Nat → ClassId) (dI : Nat → Nat → Nat) (cI cZ cS : ClassId) (q4 q0 q0sg q1 q3 q3fi q3to q1ne q2 q3w q3fiw q3tow q4im : Nat) (sz : Nat) (ct : Int32) (sg : Ar) (si : Int32) (ft : Int32) (th : Int32) (he : Int32) (ma : Int32) (ro : Int32) (fi : Ar) (to : Ar) (ne : Ar) (ac : Int32) (wy : Int32) (fa : Int32) (fp : Int32) (thw : Int32) (hew : Int32) (maw : Int32) (row : Int32) (fiw : Ar) (tow : Ar) (im : Nat → Option Nat)  (r0 : Int32) (hs : m_X4_fault ct sg = some r0) : Met l yX4_fault (.code yX4_fault cX4_fault 1 (some .int) :: kG) rm_X4_fault (va_Pc [.ref q4] (kW (dC, dI) cI cZ cS [(q4, .inr (4, [.ref q0, .ref q1, .ref q2, .ref q4im])), (q0, .inr (0, [.ref q0sg, .int ct])), (q0sg, .inl (cI, 60, .inl sg)), (q1, .inr (1, [.ref q3, .ref q1ne, .int si, .int ft])), (q3, .inr (3, [.ref q3fi, .ref q3to, .int th, .int he, .int ma, .int ro])), (q3fi, .inl (cI, 12, .inl fi)), (q3to, .inl (cI, 12, .inl to)), (q1ne, .inl (cI, 8, .inl ne)), (q2, .inr (2, [.ref q3w, .int ac, .int wy, .int fa, .int fp])), (q3w, .inr (3, [.ref q3fiw, .ref q3tow, .int thw, .int hew, .int maw, .int row])), (q3fiw, .inl (cI, 12, .inl fiw)), (q3tow, .inl (cI, 12, .inl tow)), (q4im, .inl (cS, 2, .inr (.inr (.inr (.inr im)))))] sz)) (kQi (dC, dI) [(q4, .inr (4, [.ref q0, .ref q1, .ref q2, .ref q4im])), (q0, .inr (0, [.ref q0sg, .int ct])), (q0sg, .inl (cI, 60, .inl sg)), (q1, .inr (1, [.ref q3, .ref q1ne, .int si, .int ft])), (q3, .inr (3, [.ref q3fi, .ref q3to, .int th, .int he, .int ma, .int ro])), (q3fi, .inl (cI, 12, .inl fi)), (q3to, .inl (cI, 12, .inl to)), (q1ne, .inl (cI, 8, .inl ne)), (q2, .inr (2, [.ref q3w, .int ac, .int wy, .int fa, .int fp])), (q3w, .inr (3, [.ref q3fiw, .ref q3tow, .int thw, .int hew, .int maw, .int row])), (q3fiw, .inl (cI, 12, .inl fiw)), (q3tow, .inl (cI, 12, .inl tow)), (q4im, .inl (cS, 2, .inr (.inr (.inr (.inr im)))))] [(q4, .inr (4, [.ref q0, .ref q1, .ref q2, .ref q4im])), (q0, .inr (0, [.ref q0sg, .int ct])), (q0sg, .inl (cI, 60, .inl sg)), (q1, .inr (1, [.ref q3, .ref q1ne, .int si, .int ft])), (q3, .inr (3, [.ref q3fi, .ref q3to, .int th, .int he, .int ma, .int ro])), (q3fi, .inl (cI, 12, .inl fi)), (q3to, .inl (cI, 12, .inl to)), (q1ne, .inl (cI, 8, .inl ne)), (q2, .inr (2, [.ref q3w, .int ac, .int wy, .int fa, .int fp])), (q3w, .inr (3, [.ref q3fiw, .ref q3tow, .int thw, .int hew, .int maw, .int row])), (q3fiw, .inl (cI, 12, .inl fiw)), (q3tow, .inl (cI, 12, .inl tow)), (q4im, .inl (cS, 2, .inr (.inr (.inr (.inr im)))))] sz r0) 0 0 (va_A [(q4, .inr (4, [.ref q0, .ref q1, .ref q2, .ref q4im])), (q0, .inr (0, [.ref q0sg, .int ct])), (q0sg, .inl (cI, 60, .inl sg)), (q1, .inr (1, [.ref q3, .ref q1ne, .int si, .int ft])), (q3, .inr (3, [.ref q3fi, .ref q3to, .int th, .int he, .int ma, .int ro])), (q3fi, .inl (cI, 12, .inl fi)), (q3to, .inl (cI, 12, .inl to)), (q1ne, .inl (cI, 8, .inl ne)), (q2, .inr (2, [.ref q3w, .int ac, .int wy, .int fa, .int fp])), (q3w, .inr (3, [.ref q3fiw, .ref q3tow, .int thw, .int hew, .int maw, .int row])), (q3fiw, .inl (cI, 12, .inl fiw)), (q3tow, .inl (cI, 12, .inl tow)), (q4im, .inl (cS, 2, .inr (.inr (.inr (.inr im)))))] sz) := by
  refine kMi (own := RX4) (ty := .int) rfl (by decide) rfl ?_ (Nat.le_of_ble_eq_true rfl)
  intro p e s m args below meth c Q A CF hK hN hA hP hD hret ls hl
  have hS : va_S A s.heap s.heap [] := va_S.rf
  obtain ⟨hx, hb, hml, hown, hts⟩ := id CF
  have hl : lv_has ls 1 [(0, .ref q4)] := hl
  unfold m_X4_fault at hs
  refine lv_aload_n hx hb dX4_fault_0 rfl (lv_at hl 0 rfl) ?_
  refine va_get (D := (dC, dI)) (ci := 4) (v := .ref q0) (C := RX4) (T := TX4) (N := 4) hx hb hts (fun w h => kg1 (iG_4 w h)) hown hK hP 0 rfl rfl 0 (by decide) (hts _ (kg1 mG_171)) (fun _ h9 => h9) rfl dX4_fault_1 ?_
  obtain ⟨r_1, hc_2, hs⟩ := ob1_e hs
  refine kci (wr := [(q4, .inr (4, [.ref q0, .ref q1, .ref q2, .ref q4im])), (q1, .inr (1, [.ref q3, .ref q1ne, .int si, .int ft])), (q3, .inr (3, [.ref q3fi, .ref q3to, .int th, .int he, .int ma, .int ro])), (q3fi, .inl (cI, 12, .inl fi)), (q3to, .inl (cI, 12, .inl to)), (q1ne, .inl (cI, 8, .inl ne)), (q2, .inr (2, [.ref q3w, .int ac, .int wy, .int fa, .int fp])), (q3w, .inr (3, [.ref q3fiw, .ref q3tow, .int thw, .int hew, .int maw, .int row])), (q3fiw, .inl (cI, 12, .inl fiw)), (q3tow, .inl (cI, 12, .inl tow)), (q4im, .inl (cS, 2, .inr (.inr (.inr (.inr im)))))]) (ws' := [(q4, .inr (4, [.ref q0, .ref q1, .ref q2, .ref q4im])), (q0, .inr (0, [.ref q0sg, .int ct])), (q0sg, .inl (cI, 60, .inl sg)), (q1, .inr (1, [.ref q3, .ref q1ne, .int si, .int ft])), (q3, .inr (3, [.ref q3fi, .ref q3to, .int th, .int he, .int ma, .int ro])), (q3fi, .inl (cI, 12, .inl fi)), (q3to, .inl (cI, 12, .inl to)), (q1ne, .inl (cI, 8, .inl ne)), (q2, .inr (2, [.ref q3w, .int ac, .int wy, .int fa, .int fp])), (q3w, .inr (3, [.ref q3fiw, .ref q3tow, .int thw, .int hew, .int maw, .int row])), (q3fiw, .inl (cI, 12, .inl fiw)), (q3tow, .inl (cI, 12, .inl tow)), (q4im, .inl (cS, 2, .inr (.inr (.inr (.inr im)))))]) (va_runV (As := []) (rest := []) ⟨hx, hb, hml, hown, hts⟩ (k_X0_faultPlace l dC dI cI cZ cS q0 q0sg s.heap.size ct sg r_1 hc_2) (cwV 0 hts (kGood (kgV mG_214 mG_215 mG_216 mG_16 mG_11)) rfl rfl rfl ⟨rfl, hd_X0_faultPlace⟩ ⟨Nat.le_of_ble_eq_true rfl, Nat.le_of_ble_eq_true rfl⟩) (kpV hK hN (hP.sub (ws' := [(q0, .inr (0, [.ref q0sg, .int ct])), (q0sg, .inl (cI, 60, .inl sg))]) [1, 2] rfl) (hD.sub (ws' := [(q0, .inr (0, [.ref q0sg, .int ct])), (q0sg, .inl (cI, 60, .inl sg))]) [1, 2] rfl rfl) rfl rfl rfl) rfl rfl hl.1 rfl (lv_room (Nat.le_of_ble_eq_true rfl)) dX4_fault_4 ⟨Nat.zero_le _, Nat.zero_le _⟩) hP hD hS hA [1, 2] [0, 3, 4, 5, 6, 7, 8, 9, 10, 11, 12] [0, 11, 12, 1, 2, 3, 4, 5, 6, 7, 8, 9, 10] rfl rfl rfl (by decide) rfl rfl (fun H locs hP hD hS => ?_)
  cases hs
  exact hret _ _ _ _ hP hD hS (vp_nar_int _) dX4_fault_7
abbrev rm_X4_judge : Room := { frames := 5, cells := 0, slots := 0, locals := 111 }
theorem hd_X4_judge : yX4_judge.cls ≠ "java/lang/invoke/MethodHandle" ∧ yX4_judge.cls ≠ "java/lang/invoke/VarHandle" ∧ (parseMethodDescriptor yX4_judge.desc).map (fun d => d.parameters.length) = some 1 := by decide +kernel
set_option maxHeartbeats 4000000 in
set_option maxRecDepth 100000 in
theorem k_X4_judge (l : Launch) (dC : Nat → ClassId) (dI : Nat → Nat → Nat) (cI cZ cS : ClassId) (q4 q0 q0sg q1 q3 q3fi q3to q1ne q2 q3w q3fiw q3tow q4im : Nat) (sz : Nat) (ct : Int32) (sg : Ar) (si : Int32) (ft : Int32) (th : Int32) (he : Int32) (ma : Int32) (ro : Int32) (fi : Ar) (to : Ar) (ne : Ar) (ac : Int32) (wy : Int32) (fa : Int32) (fp : Int32) (thw : Int32) (hew : Int32) (maw : Int32) (row : Int32) (fiw : Ar) (tow : Ar) (im : Nat → Option Nat) (v1 : Int32) (r0 : Int32) (ac_o : Int32) (wy_o : Int32) (fa_o : Int32) (fp_o : Int32) (thw_o : Int32) (hew_o : Int32) (maw_o : Int32) (row_o : Int32) (fiw_o : Ar) (tow_o : Ar) (hs : m_X4_judge v1 ct sg th he ma ro fi to ac wy fa fp thw hew maw row fiw tow = some (r0, ac_o, wy_o, fa_o, fp_o, thw_o, hew_o, maw_o, row_o, fiw_o, tow_o)) : Met l yX4_judge (.code yX4_judge cX4_judge 2 (some .int) :: kG) rm_X4_judge (va_Pc [.ref q4, .int v1] (kW (dC, dI) cI cZ cS [(q4, .inr (4, [.ref q0, .ref q1, .ref q2, .ref q4im])), (q0, .inr (0, [.ref q0sg, .int ct])), (q0sg, .inl (cI, 60, .inl sg)), (q1, .inr (1, [.ref q3, .ref q1ne, .int si, .int ft])), (q3, .inr (3, [.ref q3fi, .ref q3to, .int th, .int he, .int ma, .int ro])), (q3fi, .inl (cI, 12, .inl fi)), (q3to, .inl (cI, 12, .inl to)), (q1ne, .inl (cI, 8, .inl ne)), (q2, .inr (2, [.ref q3w, .int ac, .int wy, .int fa, .int fp])), (q3w, .inr (3, [.ref q3fiw, .ref q3tow, .int thw, .int hew, .int maw, .int row])), (q3fiw, .inl (cI, 12, .inl fiw)), (q3tow, .inl (cI, 12, .inl tow)), (q4im, .inl (cS, 2, .inr (.inr (.inr (.inr im)))))] sz)) (kQi (dC, dI) [(q4, .inr (4, [.ref q0, .ref q1, .ref q2, .ref q4im])), (q0, .inr (0, [.ref q0sg, .int ct])), (q0sg, .inl (cI, 60, .inl sg)), (q1, .inr (1, [.ref q3, .ref q1ne, .int si, .int ft])), (q3, .inr (3, [.ref q3fi, .ref q3to, .int th, .int he, .int ma, .int ro])), (q3fi, .inl (cI, 12, .inl fi)), (q3to, .inl (cI, 12, .inl to)), (q1ne, .inl (cI, 8, .inl ne)), (q2, .inr (2, [.ref q3w, .int ac, .int wy, .int fa, .int fp])), (q3w, .inr (3, [.ref q3fiw, .ref q3tow, .int thw, .int hew, .int maw, .int row])), (q3fiw, .inl (cI, 12, .inl fiw)), (q3tow, .inl (cI, 12, .inl tow)), (q4im, .inl (cS, 2, .inr (.inr (.inr (.inr im)))))] [(q4, .inr (4, [.ref q0, .ref q1, .ref q2, .ref q4im])), (q0, .inr (0, [.ref q0sg, .int ct])), (q0sg, .inl (cI, 60, .inl sg)), (q1, .inr (1, [.ref q3, .ref q1ne, .int si, .int ft])), (q3, .inr (3, [.ref q3fi, .ref q3to, .int th, .int he, .int ma, .int ro])), (q3fi, .inl (cI, 12, .inl fi)), (q3to, .inl (cI, 12, .inl to)), (q1ne, .inl (cI, 8, .inl ne)), (q2, .inr (2, [.ref q3w, .int ac_o, .int wy_o, .int fa_o, .int fp_o])), (q3w, .inr (3, [.ref q3fiw, .ref q3tow, .int thw_o, .int hew_o, .int maw_o, .int row_o])), (q3fiw, .inl (cI, 12, .inl fiw_o)), (q3tow, .inl (cI, 12, .inl tow_o)), (q4im, .inl (cS, 2, .inr (.inr (.inr (.inr im)))))] sz r0) 0 0 (va_A [(q4, .inr (4, [.ref q0, .ref q1, .ref q2, .ref q4im])), (q0, .inr (0, [.ref q0sg, .int ct])), (q0sg, .inl (cI, 60, .inl sg)), (q1, .inr (1, [.ref q3, .ref q1ne, .int si, .int ft])), (q3, .inr (3, [.ref q3fi, .ref q3to, .int th, .int he, .int ma, .int ro])), (q3fi, .inl (cI, 12, .inl fi)), (q3to, .inl (cI, 12, .inl to)), (q1ne, .inl (cI, 8, .inl ne)), (q2, .inr (2, [.ref q3w, .int ac, .int wy, .int fa, .int fp])), (q3w, .inr (3, [.ref q3fiw, .ref q3tow, .int thw, .int hew, .int maw, .int row])), (q3fiw, .inl (cI, 12, .inl fiw)), (q3tow, .inl (cI, 12, .inl tow)), (q4im, .inl (cS, 2, .inr (.inr (.inr (.inr im)))))] sz) := by
  refine kMi (own := RX4) (ty := .int) rfl (by decide) rfl ?_ (Nat.le_of_ble_eq_true rfl)
  intro p e s m args below meth c Q A CF hK hN hA hP hD hret ls hl
  have hS : va_S A s.heap s.heap [] := va_S.rf
  obtain ⟨hx, hb, hml, hown, hts⟩ := id CF
  have hl : lv_has ls 2 [(0, .ref q4), (1, .int v1)] := hl
  unfold m_X4_judge at hs
  refine lv_iload_n hx hb dX4_judge_0 rfl (lv_at hl 1 rfl) ?_
  refine lv_iconst (v := 0) hx hb dX4_judge_1 (by decide) ?_
  refine lv_iconst (v := 1) hx hb dX4_judge_2 (by decide) ?_
  refine kpi (va_runS (As := [.int v1, .int (0 : Int32), .int (1 : Int32)]) (rest := []) ⟨hx, hb, hml, hown, hts⟩ (k_X4_isOutside l v1 (0 : Int32) (1 : Int32) _ rfl) (va_cwS 3 hts (kGood (kgS mG_188 mG_12 mG_13 mG_9)) rfl rfl rfl hd_X4_isOutside ⟨Nat.le_of_ble_eq_true rfl, Nat.le_of_ble_eq_true rfl⟩) preEq rfl rfl hl.1 rfl (lv_room (Nat.le_of_ble_eq_true rfl)) dX4_judge_3 ⟨Nat.zero_le _, Nat.zero_le _⟩) ?_
  refine lv_if_eq (tgt := 12) hx hb dX4_judge_6 (by decide) (fun c_1 => ?_) (fun c_1 => ?_)
  · replace hs := if_p c_1 hs
    refine lv_aload_n hx hb dX4_judge_12 rfl (lv_at hl 0 rfl) ?_
    refine va_get (D := (dC, dI)) (ci := 4) (v := .ref q0) (C := RX4) (T := TX4) (N := 4) hx hb hts (fun w h => kg1 (iG_4 w h)) hown hK hP 0 rfl rfl 0 (by decide) (hts _ (kg1 mG_171)) (fun _ h9 => h9) rfl dX4_judge_13 ?_
    obtain ⟨r_2, hc_3, hs⟩ := ob1_e hs
    refine kci (wr := [(q4, .inr (4, [.ref q0, .ref q1, .ref q2, .ref q4im])), (q1, .inr (1, [.ref q3, .ref q1ne, .int si, .int ft])), (q3, .inr (3, [.ref q3fi, .ref q3to, .int th, .int he, .int ma, .int ro])), (q3fi, .inl (cI, 12, .inl fi)), (q3to, .inl (cI, 12, .inl to)), (q1ne, .inl (cI, 8, .inl ne)), (q2, .inr (2, [.ref q3w, .int ac, .int wy, .int fa, .int fp])), (q3w, .inr (3, [.ref q3fiw, .ref q3tow, .int thw, .int hew, .int maw, .int row])), (q3fiw, .inl (cI, 12, .inl fiw)), (q3tow, .inl (cI, 12, .inl tow)), (q4im, .inl (cS, 2, .inr (.inr (.inr (.inr im)))))]) (ws' := [(q4, .inr (4, [.ref q0, .ref q1, .ref q2, .ref q4im])), (q0, .inr (0, [.ref q0sg, .int ct])), (q0sg, .inl (cI, 60, .inl sg)), (q1, .inr (1, [.ref q3, .ref q1ne, .int si, .int ft])), (q3, .inr (3, [.ref q3fi, .ref q3to, .int th, .int he, .int ma, .int ro])), (q3fi, .inl (cI, 12, .inl fi)), (q3to, .inl (cI, 12, .inl to)), (q1ne, .inl (cI, 8, .inl ne)), (q2, .inr (2, [.ref q3w, .int ac, .int wy, .int fa, .int fp])), (q3w, .inr (3, [.ref q3fiw, .ref q3tow, .int thw, .int hew, .int maw, .int row])), (q3fiw, .inl (cI, 12, .inl fiw)), (q3tow, .inl (cI, 12, .inl tow)), (q4im, .inl (cS, 2, .inr (.inr (.inr (.inr im)))))]) (va_runV (As := []) (rest := []) ⟨hx, hb, hml, hown, hts⟩ (k_X0_faultPlace l dC dI cI cZ cS q0 q0sg s.heap.size ct sg r_2 hc_3) (cwV 0 hts (kGood (kgV mG_214 mG_215 mG_216 mG_16 mG_11)) rfl rfl rfl ⟨rfl, hd_X0_faultPlace⟩ ⟨Nat.le_of_ble_eq_true rfl, Nat.le_of_ble_eq_true rfl⟩) (kpV hK hN (hP.sub (ws' := [(q0, .inr (0, [.ref q0sg, .int ct])), (q0sg, .inl (cI, 60, .inl sg))]) [1, 2] rfl) (hD.sub (ws' := [(q0, .inr (0, [.ref q0sg, .int ct])), (q0sg, .inl (cI, 60, .inl sg))]) [1, 2] rfl rfl) rfl rfl rfl) rfl rfl hl.1 rfl (lv_room (Nat.le_of_ble_eq_true rfl)) dX4_judge_16 ⟨Nat.zero_le _, Nat.zero_le _⟩) hP hD hS hA [1, 2] [0, 3, 4, 5, 6, 7, 8, 9, 10, 11, 12] [0, 11, 12, 1, 2, 3, 4, 5, 6, 7, 8, 9, 10] rfl rfl rfl (by decide) rfl rfl (fun H locs hP hD hS => ?_)
    refine lv_bipush (v := -6) hx hb dX4_judge_19 (by decide) ?_
    refine lv_icmp_eq (tgt := 27) hx hb dX4_judge_21 (by decide) (fun c_4 => ?_) (fun c_4 => ?_)
    · replace hs := if_p c_4 hs
      refine lv_aload_n hx hb dX4_judge_27 rfl (lv_at hl 0 rfl) ?_
      refine va_get (D := (dC, dI)) (ci := 4) (v := .ref q2) (C := RX4) (T := TX4) (N := 4) hx hb hts (fun w h => kg1 (iG_4 w h)) hown hK hP 0 rfl rfl 2 (by decide) (hts _ (kg1 mG_177)) (fun _ h9 => h9) rfl dX4_judge_28 ?_
      refine lv_aload_n hx hb dX4_judge_31 rfl (lv_at hl 0 rfl) ?_
      refine va_get (D := (dC, dI)) (ci := 4) (v := .ref q0) (C := RX4) (T := TX4) (N := 4) hx hb hts (fun w h => kg1 (iG_4 w h)) hown hK hP 0 rfl rfl 0 (by decide) (hts _ (kg1 mG_171)) (fun _ h9 => h9) rfl dX4_judge_32 ?_
      refine lv_aload_n hx hb dX4_judge_35 rfl (lv_at hl 0 rfl) ?_
      refine va_get (D := (dC, dI)) (ci := 4) (v := .ref q1) (C := RX4) (T := TX4) (N := 4) hx hb hts (fun w h => kg1 (iG_4 w h)) hown hK hP 0 rfl rfl 1 (by decide) (hts _ (kg1 mG_174)) (fun _ h9 => h9) rfl dX4_judge_36 ?_
      refine va_get (D := (dC, dI)) (ci := 1) (v := .ref q3) (C := RX1) (T := TX1) (N := 4) hx hb hts (fun w h => kg1 (iG_1 w h)) hown hK hP 3 rfl rfl 0 (by decide) (hts _ (kg1 mG_185)) (fun _ h9 => h9) rfl dX4_judge_39 ?_
      obtain ⟨ac_5, wy_6, fa_7, fp_8, thw_9, hew_10, maw_11, row_12, fiw_13, tow_14, hc_15, hs⟩ := ob10_e hs
      refine kcv (wr := [(q4, .inr (4, [.ref q0, .ref q1, .ref q2, .ref q4im])), (q1, .inr (1, [.ref q3, .ref q1ne, .int si, .int ft])), (q1ne, .inl (cI, 8, .inl ne)), (q4im, .inl (cS, 2, .inr (.inr (.inr (.inr im)))))]) (ws' := [(q4, .inr (4, [.ref q0, .ref q1, .ref q2, .ref q4im])), (q0, .inr (0, [.ref q0sg, .int ct])), (q0sg, .inl (cI, 60, .inl sg)), (q1, .inr (1, [.ref q3, .ref q1ne, .int si, .int ft])), (q3, .inr (3, [.ref q3fi, .ref q3to, .int th, .int he, .int ma, .int ro])), (q3fi, .inl (cI, 12, .inl fi)), (q3to, .inl (cI, 12, .inl to)), (q1ne, .inl (cI, 8, .inl ne)), (q2, .inr (2, [.ref q3w, .int ac_5, .int wy_6, .int fa_7, .int fp_8])), (q3w, .inr (3, [.ref q3fiw, .ref q3tow, .int thw_9, .int hew_10, .int maw_11, .int row_12])), (q3fiw, .inl (cI, 12, .inl fiw_13)), (q3tow, .inl (cI, 12, .inl tow_14)), (q4im, .inl (cS, 2, .inr (.inr (.inr (.inr im)))))]) (va_runV (As := [.ref q0, .ref q3]) (rest := []) ⟨hx, hb, hml, hown, hts⟩ (k_X2_follow l dC dI cI cZ cS q2 q3w q3fiw q3tow q0 q0sg q3 q3fi q3to H.size ac wy fa fp thw hew maw row fiw tow ct sg th he ma ro fi to ac_5 wy_6 fa_7 fp_8 thw_9 hew_10 maw_11 row_12 fiw_13 tow_14 hc_15) (cwV 2 hts (kGood (kgV mG_219 mG_220 mG_221 mG_117 mG_137)) rfl rfl rfl ⟨rfl, hd_X2_follow⟩ ⟨Nat.le_of_ble_eq_true rfl, Nat.le_of_ble_eq_true rfl⟩) (kpV hK hN (hP.sub (ws' := [(q2, .inr (2, [.ref q3w, .int ac, .int wy, .int fa, .int fp])), (q3w, .inr (3, [.ref q3fiw, .ref q3tow, .int thw, .int hew, .int maw, .int row])), (q3fiw, .inl (cI, 12, .inl fiw)), (q3tow, .inl (cI, 12, .inl tow)), (q0, .inr (0, [.ref q0sg, .int ct])), (q0sg, .inl (cI, 60, .inl sg)), (q3, .inr (3, [.ref q3fi, .ref q3to, .int th, .int he, .int ma, .int ro])), (q3fi, .inl (cI, 12, .inl fi)), (q3to, .inl (cI, 12, .inl to))]) [8, 9, 10, 11, 1, 2, 4, 5, 6] rfl) (hD.sub (ws' := [(q2, .inr (2, [.ref q3w, .int ac, .int wy, .int fa, .int fp])), (q3w, .inr (3, [.ref q3fiw, .ref q3tow, .int thw, .int hew, .int maw, .int row])), (q3fiw, .inl (cI, 12, .inl fiw)), (q3tow, .inl (cI, 12, .inl tow)), (q0, .inr (0, [.ref q0sg, .int ct])), (q0sg, .inl (cI, 60, .inl sg)), (q3, .inr (3, [.ref q3fi, .ref q3to, .int th, .int he, .int ma, .int ro])), (q3fi, .inl (cI, 12, .inl fi)), (q3to, .inl (cI, 12, .inl to))]) [8, 9, 10, 11, 1, 2, 4, 5, 6] rfl rfl) rfl rfl rfl) rfl rfl hl.1 rfl (lv_room (Nat.le_of_ble_eq_true rfl)) dX4_judge_42 ⟨Nat.zero_le _, Nat.zero_le _⟩) hP hD hS hA [8, 9, 10, 11, 1, 2, 4, 5, 6] [0, 3, 7, 12] [0, 8, 9, 1, 10, 11, 12, 2, 4, 5, 6, 7, 3] rfl rfl rfl (by decide) rfl rfl (fun H locs hP hD hS => ?_)
      refine lv_aload_n hx hb dX4_judge_45 rfl (lv_at hl 0 rfl) ?_
      refine va_get (D := (dC, dI)) (ci := 4) (v := .ref q2) (C := RX4) (T := TX4) (N := 4) hx hb hts (fun w h => kg1 (iG_4 w h)) hown hK hP 0 rfl rfl 2 (by decide) (hts _ (kg1 mG_177)) (fun _ h9 => h9) rfl dX4_judge_46 ?_
      refine va_get (D := (dC, dI)) (ci := 2) (v := .int wy_6) (C := RX2) (T := TX2) (N := 5) hx hb hts (fun w h => kg1 (iG_2 w h)) hown hK hP 8 rfl rfl 2 (by decide) (hts _ (kg1 mG_217)) (fun _ h9 => h9) rfl dX4_judge_49 ?_
      refine lv_if_ne (tgt := 58) hx hb dX4_judge_52 (by decide) (fun c_16 => ?_) (fun c_16 => ?_)
      · replace hs := if_n c_16 hs
        refine lv_iload_n hx hb dX4_judge_58 rfl (lv_at hl 1 rfl) ?_
        refine lv_if_ne (tgt := 72) hx hb dX4_judge_59 (by decide) (fun c_17 => ?_) (fun c_17 => ?_)
        · replace hs := if_n c_17 hs
          refine lv_aload_n hx hb dX4_judge_72 rfl (lv_at hl 0 rfl) ?_
          refine va_get (D := (dC, dI)) (ci := 4) (v := .ref q2) (C := RX4) (T := TX4) (N := 4) hx hb hts (fun w h => kg1 (iG_4 w h)) hown hK hP 0 rfl rfl 2 (by decide) (hts _ (kg1 mG_177)) (fun _ h9 => h9) rfl dX4_judge_73 ?_
          refine va_get (D := (dC, dI)) (ci := 2) (v := .int wy_6) (C := RX2) (T := TX2) (N := 5) hx hb hts (fun w h => kg1 (iG_2 w h)) hown hK hP 8 rfl rfl 2 (by decide) (hts _ (kg1 mG_217)) (fun _ h9 => h9) rfl dX4_judge_76 ?_
          cases hs
          exact hret _ _ _ _ hP hD hS (vp_nar_int _) dX4_judge_79
        · replace hs := if_p c_17 hs
          refine lv_aload_n hx hb dX4_judge_62 rfl (lv_at hl 0 rfl) ?_
          refine va_get (D := (dC, dI)) (ci := 4) (v := .ref q2) (C := RX4) (T := TX4) (N := 4) hx hb hts (fun w h => kg1 (iG_4 w h)) hown hK hP 0 rfl rfl 2 (by decide) (hts _ (kg1 mG_177)) (fun _ h9 => h9) rfl dX4_judge_63 ?_
          refine va_get (D := (dC, dI)) (ci := 2) (v := .int ac_5) (C := RX2) (T := TX2) (N := 5) hx hb hts (fun w h => kg1 (iG_2 w h)) hown hK hP 8 rfl rfl 1 (by decide) (hts _ (kg1 mG_218)) (fun _ h9 => h9) rfl dX4_judge_66 ?_
          refine lv_goto (tgt := 79) hx hb dX4_judge_69 (by decide) ?_
          cases hs
          exact hret _ _ _ _ hP hD hS (vp_nar_int _) dX4_judge_79
      · replace hs := if_p c_16 hs
        refine lv_bipush (v := -6) hx hb dX4_judge_55 (by decide) ?_
        cases hs
        exact hret _ _ _ _ hP hD hS (vp_nar_int _) dX4_judge_57
    · replace hs := if_n c_4 hs
      refine lv_bipush (v := -5) hx hb dX4_judge_24 (by decide) ?_
      cases hs
      exact hret _ _ _ _ hP hD hS (vp_nar_int _) dX4_judge_26
  · replace hs := if_n c_1 hs
    refine lv_bipush (v := -2) hx hb dX4_judge_9 (by decide) ?_
    cases hs
    exact hret _ _ _ _ hP hD hS (vp_nar_int _) dX4_judge_11
abbrev rm_X4_canWalk : Room := { frames := 5, cells := 0, slots := 0, locals := 111 }
theorem hd_X4_canWalk : yX4_canWalk.cls ≠ "java/lang/invoke/MethodHandle" ∧ yX4_canWalk.cls ≠ "java/lang/invoke/VarHandle" ∧ (parseMethodDescriptor yX4_canWalk.desc).map (fun d => d.parameters.length) = some 0 := by decide +kernel
set_option maxHeartbeats 4000000 in
set_option maxRecDepth 100000 in
theorem k_X4_canWalk (l : Launch) (dC : Nat → ClassId) (dI : Nat → Nat → Nat) (cI cZ cS : ClassId) (q4 q0 q0sg q1 q3 q3fi q3to q1ne q2 q3w q3fiw q3tow q4im : Nat) (sz : Nat) (ct : Int32) (sg : Ar) (si : Int32) (ft : Int32) (th : Int32) (he : Int32) (ma : Int32) (ro : Int32) (fi : Ar) (to : Ar) (ne : Ar) (ac : Int32) (wy : Int32) (fa : Int32) (fp : Int32) (thw : Int32) (hew : Int32) (maw : Int32) (row : Int32) (fiw : Ar) (tow : Ar) (im : Nat → Option Nat)  (r0 : Int32) (ac_o : Int32) (wy_o : Int32) (fa_o : Int32) (fp_o : Int32) (thw_o : Int32) (hew_o : Int32) (maw_o : Int32) (row_o : Int32) (fiw_o : Ar) (tow_o : Ar) (hs : m_X4_canWalk ct sg th he ma ro fi to ac wy fa fp thw hew maw row fiw tow = some (r0, ac_o, wy_o, fa_o, fp_o, thw_o, hew_o, maw_o, row_o, fiw_o, tow_o)) : Met l yX4_canWalk (.code yX4_canWalk cX4_canWalk 1 (some .boolean) :: kG) rm_X4_canWalk (va_Pc [.ref q4] (kW (dC, dI) cI cZ cS [(q4, .inr (4, [.ref q0, .ref q1, .ref q2, .ref q4im])), (q0, .inr (0, [.ref q0sg, .int ct])), (q0sg, .inl (cI, 60, .inl sg)), (q1, .inr (1, [.ref q3, .ref q1ne, .int si, .int ft])), (q3, .inr (3, [.ref q3fi, .ref q3to, .int th, .int he, .int ma, .int ro])), (q3fi, .inl (cI, 12, .inl fi)), (q3to, .inl (cI, 12, .inl to)), (q1ne, .inl (cI, 8, .inl ne)), (q2, .inr (2, [.ref q3w, .int ac, .int wy, .int fa, .int fp])), (q3w, .inr (3, [.ref q3fiw, .ref q3tow, .int thw, .int hew, .int maw, .int row])), (q3fiw, .inl (cI, 12, .inl fiw)), (q3tow, .inl (cI, 12, .inl tow)), (q4im, .inl (cS, 2, .inr (.inr (.inr (.inr im)))))] sz)) (kQi (dC, dI) [(q4, .inr (4, [.ref q0, .ref q1, .ref q2, .ref q4im])), (q0, .inr (0, [.ref q0sg, .int ct])), (q0sg, .inl (cI, 60, .inl sg)), (q1, .inr (1, [.ref q3, .ref q1ne, .int si, .int ft])), (q3, .inr (3, [.ref q3fi, .ref q3to, .int th, .int he, .int ma, .int ro])), (q3fi, .inl (cI, 12, .inl fi)), (q3to, .inl (cI, 12, .inl to)), (q1ne, .inl (cI, 8, .inl ne)), (q2, .inr (2, [.ref q3w, .int ac, .int wy, .int fa, .int fp])), (q3w, .inr (3, [.ref q3fiw, .ref q3tow, .int thw, .int hew, .int maw, .int row])), (q3fiw, .inl (cI, 12, .inl fiw)), (q3tow, .inl (cI, 12, .inl tow)), (q4im, .inl (cS, 2, .inr (.inr (.inr (.inr im)))))] [(q4, .inr (4, [.ref q0, .ref q1, .ref q2, .ref q4im])), (q0, .inr (0, [.ref q0sg, .int ct])), (q0sg, .inl (cI, 60, .inl sg)), (q1, .inr (1, [.ref q3, .ref q1ne, .int si, .int ft])), (q3, .inr (3, [.ref q3fi, .ref q3to, .int th, .int he, .int ma, .int ro])), (q3fi, .inl (cI, 12, .inl fi)), (q3to, .inl (cI, 12, .inl to)), (q1ne, .inl (cI, 8, .inl ne)), (q2, .inr (2, [.ref q3w, .int ac_o, .int wy_o, .int fa_o, .int fp_o])), (q3w, .inr (3, [.ref q3fiw, .ref q3tow, .int thw_o, .int hew_o, .int maw_o, .int row_o])), (q3fiw, .inl (cI, 12, .inl fiw_o)), (q3tow, .inl (cI, 12, .inl tow_o)), (q4im, .inl (cS, 2, .inr (.inr (.inr (.inr im)))))] sz r0) 0 0 (va_A [(q4, .inr (4, [.ref q0, .ref q1, .ref q2, .ref q4im])), (q0, .inr (0, [.ref q0sg, .int ct])), (q0sg, .inl (cI, 60, .inl sg)), (q1, .inr (1, [.ref q3, .ref q1ne, .int si, .int ft])), (q3, .inr (3, [.ref q3fi, .ref q3to, .int th, .int he, .int ma, .int ro])), (q3fi, .inl (cI, 12, .inl fi)), (q3to, .inl (cI, 12, .inl to)), (q1ne, .inl (cI, 8, .inl ne)), (q2, .inr (2, [.ref q3w, .int ac, .int wy, .int fa, .int fp])), (q3w, .inr (3, [.ref q3fiw, .ref q3tow, .int thw, .int hew, .int maw, .int row])), (q3fiw, .inl (cI, 12, .inl fiw)), (q3tow, .inl (cI, 12, .inl tow)), (q4im, .inl (cS, 2, .inr (.inr (.inr (.inr im)))))] sz) := by
  refine kMi (own := RX4) (ty := .boolean) rfl (by decide) rfl ?_ (Nat.le_of_ble_eq_true rfl)
  intro p e s m args below meth c Q A CF hK hN hA hP hD hret ls hl
  have hS : va_S A s.heap s.heap [] := va_S.rf
  obtain ⟨hx, hb, hml, hown, hts⟩ := id CF
  have hl : lv_has ls 1 [(0, .ref q4)] := hl
  unfold m_X4_canWalk at hs
  refine lv_aload_n hx hb dX4_canWalk_0 rfl (lv_at hl 0 rfl) ?_
  refine va_get (D := (dC, dI)) (ci := 4) (v := .ref q0) (C := RX4) (T := TX4) (N := 4) hx hb hts (fun w h => kg1 (iG_4 w h)) hown hK hP 0 rfl rfl 0 (by decide) (hts _ (kg1 mG_171)) (fun _ h9 => h9) rfl dX4_canWalk_1 ?_
  obtain ⟨r_1, hc_2, hs⟩ := ob1_e hs
  refine kci (wr := [(q4, .inr (4, [.ref q0, .ref q1, .ref q2, .ref q4im])), (q1, .inr (1, [.ref q3, .ref q1ne, .int si, .int ft])), (q3, .inr (3, [.ref q3fi, .ref q3to, .int th, .int he, .int ma, .int ro])), (q3fi, .inl (cI, 12, .inl fi)), (q3to, .inl (cI, 12, .inl to)), (q1ne, .inl (cI, 8, .inl ne)), (q2, .inr (2, [.ref q3w, .int ac, .int wy, .int fa, .int fp])), (q3w, .inr (3, [.ref q3fiw, .ref q3tow, .int thw, .int hew, .int maw, .int row])), (q3fiw, .inl (cI, 12, .inl fiw)), (q3tow, .inl (cI, 12, .inl tow)), (q4im, .inl (cS, 2, .inr (.inr (.inr (.inr im)))))]) (ws' := [(q4, .inr (4, [.ref q0, .ref q1, .ref q2, .ref q4im])), (q0, .inr (0, [.ref q0sg, .int ct])), (q0sg, .inl (cI, 60, .inl sg)), (q1, .inr (1, [.ref q3, .ref q1ne, .int si, .int ft])), (q3, .inr (3, [.ref q3fi, .ref q3to, .int th, .int he, .int ma, .int ro])), (q3fi, .inl (cI, 12, .inl fi)), (q3to, .inl (cI, 12, .inl to)), (q1ne, .inl (cI, 8, .inl ne)), (q2, .inr (2, [.ref q3w, .int ac, .int wy, .int fa, .int fp])), (q3w, .inr (3, [.ref q3fiw, .ref q3tow, .int thw, .int hew, .int maw, .int row])), (q3fiw, .inl (cI, 12, .inl fiw)), (q3tow, .inl (cI, 12, .inl tow)), (q4im, .inl (cS, 2, .inr (.inr (.inr (.inr im)))))]) (va_runV (As := []) (rest := []) ⟨hx, hb, hml, hown, hts⟩ (k_X0_faultPlace l dC dI cI cZ cS q0 q0sg s.heap.size ct sg r_1 hc_2) (cwV 0 hts (kGood (kgV mG_214 mG_215 mG_216 mG_16 mG_11)) rfl rfl rfl ⟨rfl, hd_X0_faultPlace⟩ ⟨Nat.le_of_ble_eq_true rfl, Nat.le_of_ble_eq_true rfl⟩) (kpV hK hN (hP.sub (ws' := [(q0, .inr (0, [.ref q0sg, .int ct])), (q0sg, .inl (cI, 60, .inl sg))]) [1, 2] rfl) (hD.sub (ws' := [(q0, .inr (0, [.ref q0sg, .int ct])), (q0sg, .inl (cI, 60, .inl sg))]) [1, 2] rfl rfl) rfl rfl rfl) rfl rfl hl.1 rfl (lv_room (Nat.le_of_ble_eq_true rfl)) dX4_canWalk_4 ⟨Nat.zero_le _, Nat.zero_le _⟩) hP hD hS hA [1, 2] [0, 3, 4, 5, 6, 7, 8, 9, 10, 11, 12] [0, 11, 12, 1, 2, 3, 4, 5, 6, 7, 8, 9, 10] rfl rfl rfl (by decide) rfl rfl (fun H locs hP hD hS => ?_)
  refine lv_bipush (v := -6) hx hb dX4_canWalk_7 (by decide) ?_
  refine lv_icmp_eq (tgt := 14) hx hb dX4_canWalk_9 (by decide) (fun c_3 => ?_) (fun c_3 => ?_)
  · replace hs := if_p c_3 hs
    refine lv_aload_n hx hb dX4_canWalk_14 rfl (lv_at hl 0 rfl) ?_
    refine va_get (D := (dC, dI)) (ci := 4) (v := .ref q2) (C := RX4) (T := TX4) (N := 4) hx hb hts (fun w h => kg1 (iG_4 w h)) hown hK hP 0 rfl rfl 2 (by decide) (hts _ (kg1 mG_177)) (fun _ h9 => h9) rfl dX4_canWalk_15 ?_
    refine lv_aload_n hx hb dX4_canWalk_18 rfl (lv_at hl 0 rfl) ?_
    refine va_get (D := (dC, dI)) (ci := 4) (v := .ref q0) (C := RX4) (T := TX4) (N := 4) hx hb hts (fun w h => kg1 (iG_4 w h)) hown hK hP 0 rfl rfl 0 (by decide) (hts _ (kg1 mG_171)) (fun _ h9 => h9) rfl dX4_canWalk_19 ?_
    refine lv_aload_n hx hb dX4_canWalk_22 rfl (lv_at hl 0 rfl) ?_
    refine va_get (D := (dC, dI)) (ci := 4) (v := .ref q1) (C := RX4) (T := TX4) (N := 4) hx hb hts (fun w h => kg1 (iG_4 w h)) hown hK hP 0 rfl rfl 1 (by decide) (hts _ (kg1 mG_174)) (fun _ h9 => h9) rfl dX4_canWalk_23 ?_
    refine va_get (D := (dC, dI)) (ci := 1) (v := .ref q3) (C := RX1) (T := TX1) (N := 4) hx hb hts (fun w h => kg1 (iG_1 w h)) hown hK hP 3 rfl rfl 0 (by decide) (hts _ (kg1 mG_185)) (fun _ h9 => h9) rfl dX4_canWalk_26 ?_
    obtain ⟨ac_4, wy_5, fa_6, fp_7, thw_8, hew_9, maw_10, row_11, fiw_12, tow_13, hc_14, hs⟩ := ob10_e hs
    refine kcv (wr := [(q4, .inr (4, [.ref q0, .ref q1, .ref q2, .ref q4im])), (q1, .inr (1, [.ref q3, .ref q1ne, .int si, .int ft])), (q1ne, .inl (cI, 8, .inl ne)), (q4im, .inl (cS, 2, .inr (.inr (.inr (.inr im)))))]) (ws' := [(q4, .inr (4, [.ref q0, .ref q1, .ref q2, .ref q4im])), (q0, .inr (0, [.ref q0sg, .int ct])), (q0sg, .inl (cI, 60, .inl sg)), (q1, .inr (1, [.ref q3, .ref q1ne, .int si, .int ft])), (q3, .inr (3, [.ref q3fi, .ref q3to, .int th, .int he, .int ma, .int ro])), (q3fi, .inl (cI, 12, .inl fi)), (q3to, .inl (cI, 12, .inl to)), (q1ne, .inl (cI, 8, .inl ne)), (q2, .inr (2, [.ref q3w, .int ac_4, .int wy_5, .int fa_6, .int fp_7])), (q3w, .inr (3, [.ref q3fiw, .ref q3tow, .int thw_8, .int hew_9, .int maw_10, .int row_11])), (q3fiw, .inl (cI, 12, .inl fiw_12)), (q3tow, .inl (cI, 12, .inl tow_13)), (q4im, .inl (cS, 2, .inr (.inr (.inr (.inr im)))))]) (va_runV (As := [.ref q0, .ref q3]) (rest := []) ⟨hx, hb, hml, hown, hts⟩ (k_X2_follow l dC dI cI cZ cS q2 q3w q3fiw q3tow q0 q0sg q3 q3fi q3to H.size ac wy fa fp thw hew maw row fiw tow ct sg th he ma ro fi to ac_4 wy_5 fa_6 fp_7 thw_8 hew_9 maw_10 row_11 fiw_12 tow_13 hc_14) (cwV 2 hts (kGood (kgV mG_219 mG_220 mG_221 mG_117 mG_137)) rfl rfl rfl ⟨rfl, hd_X2_follow⟩ ⟨Nat.le_of_ble_eq_true rfl, Nat.le_of_ble_eq_true rfl⟩) (kpV hK hN (hP.sub (ws' := [(q2, .inr (2, [.ref q3w, .int ac, .int wy, .int fa, .int fp])), (q3w, .inr (3, [.ref q3fiw, .ref q3tow, .int thw, .int hew, .int maw, .int row])), (q3fiw, .inl (cI, 12, .inl fiw)), (q3tow, .inl (cI, 12, .inl tow)), (q0, .inr (0, [.ref q0sg, .int ct])), (q0sg, .inl (cI, 60, .inl sg)), (q3, .inr (3, [.ref q3fi, .ref q3to, .int th, .int he, .int ma, .int ro])), (q3fi, .inl (cI, 12, .inl fi)), (q3to, .inl (cI, 12, .inl to))]) [8, 9, 10, 11, 1, 2, 4, 5, 6] rfl) (hD.sub (ws' := [(q2, .inr (2, [.ref q3w, .int ac, .int wy, .int fa, .int fp])), (q3w, .inr (3, [.ref q3fiw, .ref q3tow, .int thw, .int hew, .int maw, .int row])), (q3fiw, .inl (cI, 12, .inl fiw)), (q3tow, .inl (cI, 12, .inl tow)), (q0, .inr (0, [.ref q0sg, .int ct])), (q0sg, .inl (cI, 60, .inl sg)), (q3, .inr (3, [.ref q3fi, .ref q3to, .int th, .int he, .int ma, .int ro])), (q3fi, .inl (cI, 12, .inl fi)), (q3to, .inl (cI, 12, .inl to))]) [8, 9, 10, 11, 1, 2, 4, 5, 6] rfl rfl) rfl rfl rfl) rfl rfl hl.1 rfl (lv_room (Nat.le_of_ble_eq_true rfl)) dX4_canWalk_29 ⟨Nat.zero_le _, Nat.zero_le _⟩) hP hD hS hA [8, 9, 10, 11, 1, 2, 4, 5, 6] [0, 3, 7, 12] [0, 8, 9, 1, 10, 11, 12, 2, 4, 5, 6, 7, 3] rfl rfl rfl (by decide) rfl rfl (fun H locs hP hD hS => ?_)
    refine lv_aload_n hx hb dX4_canWalk_32 rfl (lv_at hl 0 rfl) ?_
    refine va_get (D := (dC, dI)) (ci := 4) (v := .ref q2) (C := RX4) (T := TX4) (N := 4) hx hb hts (fun w h => kg1 (iG_4 w h)) hown hK hP 0 rfl rfl 2 (by decide) (hts _ (kg1 mG_177)) (fun _ h9 => h9) rfl dX4_canWalk_33 ?_
    refine va_get (D := (dC, dI)) (ci := 2) (v := .int wy_5) (C := RX2) (T := TX2) (N := 5) hx hb hts (fun w h => kg1 (iG_2 w h)) hown hK hP 8 rfl rfl 2 (by decide) (hts _ (kg1 mG_217)) (fun _ h9 => h9) rfl dX4_canWalk_36 ?_
    refine lv_if_ne (tgt := 46) hx hb dX4_canWalk_39 (by decide) (fun c_15 => ?_) (fun c_15 => ?_)
    · replace hs := if_n c_15 hs
      refine lv_iconst (v := 0) hx hb dX4_canWalk_46 (by decide) ?_
      cases hs
      exact hret _ _ _ _ hP hD hS rfl dX4_canWalk_47
    · replace hs := if_p c_15 hs
      refine lv_iconst (v := 1) hx hb dX4_canWalk_42 (by decide) ?_
      refine lv_goto (tgt := 47) hx hb dX4_canWalk_43 (by decide) ?_
      cases hs
      exact hret _ _ _ _ hP hD hS rfl dX4_canWalk_47
  · replace hs := if_n c_3 hs
    refine lv_iconst (v := 0) hx hb dX4_canWalk_12 (by decide) ?_
    cases hs
    exact hret _ _ _ _ hP hD hS rfl dX4_canWalk_13
abbrev rm_X4_done : Room := { frames := 6, cells := 0, slots := 0, locals := 131 }
theorem hd_X4_done : yX4_done.cls ≠ "java/lang/invoke/MethodHandle" ∧ yX4_done.cls ≠ "java/lang/invoke/VarHandle" ∧ (parseMethodDescriptor yX4_done.desc).map (fun d => d.parameters.length) = some 0 := by decide +kernel
set_option maxHeartbeats 4000000 in
set_option maxRecDepth 100000 in
theorem k_X4_done (l : Launch) (dC : Nat → ClassId) (dI : Nat → Nat → Nat) (cI cZ cS : ClassId) (q4 q0 q0sg q1 q3 q3fi q3to q1ne q2 q3w q3fiw q3tow q4im : Nat) (sz : Nat) (ct : Int32) (sg : Ar) (si : Int32) (ft : Int32) (th : Int32) (he : Int32) (ma : Int32) (ro : Int32) (fi : Ar) (to : Ar) (ne : Ar) (ac : Int32) (wy : Int32) (fa : Int32) (fp : Int32) (thw : Int32) (hew : Int32) (maw : Int32) (row : Int32) (fiw : Ar) (tow : Ar) (im : Nat → Option Nat)  (r0 : Int32) (ct_o : Int32) (th_o : Int32) (he_o : Int32) (ma_o : Int32) (ro_o : Int32) (fi_o : Ar) (to_o : Ar) (ac_o : Int32) (wy_o : Int32) (fa_o : Int32) (fp_o : Int32) (thw_o : Int32) (hew_o : Int32) (maw_o : Int32) (row_o : Int32) (fiw_o : Ar) (tow_o : Ar) (hs : m_X4_done ct sg th he ma ro fi to ac wy fa fp thw hew maw row fiw tow = some (r0, ct_o, th_o, he_o, ma_o, ro_o, fi_o, to_o, ac_o, wy_o, fa_o, fp_o, thw_o, hew_o, maw_o, row_o, fiw_o, tow_o)) : Met l yX4_done (.code yX4_done cX4_done 1 (some .int) :: kG) rm_X4_done (va_Pc [.ref q4] (kW (dC, dI) cI cZ cS [(q4, .inr (4, [.ref q0, .ref q1, .ref q2, .ref q4im])), (q0, .inr (0, [.ref q0sg, .int ct])), (q0sg, .inl (cI, 60, .inl sg)), (q1, .inr (1, [.ref q3, .ref q1ne, .int si, .int ft])), (q3, .inr (3, [.ref q3fi, .ref q3to, .int th, .int he, .int ma, .int ro])), (q3fi, .inl (cI, 12, .inl fi)), (q3to, .inl (cI, 12, .inl to)), (q1ne, .inl (cI, 8, .inl ne)), (q2, .inr (2, [.ref q3w, .int ac, .int wy, .int fa, .int fp])), (q3w, .inr (3, [.ref q3fiw, .ref q3tow, .int thw, .int hew, .int maw, .int row])), (q3fiw, .inl (cI, 12, .inl fiw)), (q3tow, .inl (cI, 12, .inl tow)), (q4im, .inl (cS, 2, .inr (.inr (.inr (.inr im)))))] sz)) (kQi (dC, dI) [(q4, .inr (4, [.ref q0, .ref q1, .ref q2, .ref q4im])), (q0, .inr (0, [.ref q0sg, .int ct])), (q0sg, .inl (cI, 60, .inl sg)), (q1, .inr (1, [.ref q3, .ref q1ne, .int si, .int ft])), (q3, .inr (3, [.ref q3fi, .ref q3to, .int th, .int he, .int ma, .int ro])), (q3fi, .inl (cI, 12, .inl fi)), (q3to, .inl (cI, 12, .inl to)), (q1ne, .inl (cI, 8, .inl ne)), (q2, .inr (2, [.ref q3w, .int ac, .int wy, .int fa, .int fp])), (q3w, .inr (3, [.ref q3fiw, .ref q3tow, .int thw, .int hew, .int maw, .int row])), (q3fiw, .inl (cI, 12, .inl fiw)), (q3tow, .inl (cI, 12, .inl tow)), (q4im, .inl (cS, 2, .inr (.inr (.inr (.inr im)))))] [(q4, .inr (4, [.ref q0, .ref q1, .ref q2, .ref q4im])), (q0, .inr (0, [.ref q0sg, .int ct_o])), (q0sg, .inl (cI, 60, .inl sg)), (q1, .inr (1, [.ref q3, .ref q1ne, .int si, .int ft])), (q3, .inr (3, [.ref q3fi, .ref q3to, .int th_o, .int he_o, .int ma_o, .int ro_o])), (q3fi, .inl (cI, 12, .inl fi_o)), (q3to, .inl (cI, 12, .inl to_o)), (q1ne, .inl (cI, 8, .inl ne)), (q2, .inr (2, [.ref q3w, .int ac_o, .int wy_o, .int fa_o, .int fp_o])), (q3w, .inr (3, [.ref q3fiw, .ref q3tow, .int thw_o, .int hew_o, .int maw_o, .int row_o])), (q3fiw, .inl (cI, 12, .inl fiw_o)), (q3tow, .inl (cI, 12, .inl tow_o)), (q4im, .inl (cS, 2, .inr (.inr (.inr (.inr im)))))] sz r0) 0 0 (va_A [(q4, .inr (4, [.ref q0, .ref q1, .ref q2, .ref q4im])), (q0, .inr (0, [.ref q0sg, .int ct])), (q0sg, .inl (cI, 60, .inl sg)), (q1, .inr (1, [.ref q3, .ref q1ne, .int si, .int ft])), (q3, .inr (3, [.ref q3fi, .ref q3to, .int th, .int he, .int ma, .int ro])), (q3fi, .inl (cI, 12, .inl fi)), (q3to, .inl (cI, 12, .inl to)), (q1ne, .inl (cI, 8, .inl ne)), (q2, .inr (2, [.ref q3w, .int ac, .int wy, .int fa, .int fp])), (q3w, .inr (3, [.ref q3fiw, .ref q3tow, .int thw, .int hew, .int maw, .int row])), (q3fiw, .inl (cI, 12, .inl fiw)), (q3tow, .inl (cI, 12, .inl tow)), (q4im, .inl (cS, 2, .inr (.inr (.inr (.inr im)))))] sz) := by
  refine kMi (own := RX4) (ty := .int) rfl (by decide) rfl ?_ (Nat.le_of_ble_eq_true rfl)
  intro p e s m args below meth c Q A CF hK hN hA hP hD hret ls hl
  have hS : va_S A s.heap s.heap [] := va_S.rf
  obtain ⟨hx, hb, hml, hown, hts⟩ := id CF
  have hl : lv_has ls 1 [(0, .ref q4)] := hl
  unfold m_X4_done at hs
  refine lv_aload_n hx hb dX4_done_0 rfl (lv_at hl 0 rfl) ?_
  obtain ⟨r_1, ac_2, wy_3, fa_4, fp_5, thw_6, hew_7, maw_8, row_9, fiw_10, tow_11, hc_12, hs⟩ := ob11_e hs
  refine kci (wr := []) (ws' := [(q4, .inr (4, [.ref q0, .ref q1, .ref q2, .ref q4im])), (q0, .inr (0, [.ref q0sg, .int ct])), (q0sg, .inl (cI, 60, .inl sg)), (q1, .inr (1, [.ref q3, .ref q1ne, .int si, .int ft])), (q3, .inr (3, [.ref q3fi, .ref q3to, .int th, .int he, .int ma, .int ro])), (q3fi, .inl (cI, 12, .inl fi)), (q3to, .inl (cI, 12, .inl to)), (q1ne, .inl (cI, 8, .inl ne)), (q2, .inr (2, [.ref q3w, .int ac_2, .int wy_3, .int fa_4, .int fp_5])), (q3w, .inr (3, [.ref q3fiw, .ref q3tow, .int thw_6, .int hew_7, .int maw_8, .int row_9])), (q3fiw, .inl (cI, 12, .inl fiw_10)), (q3tow, .inl (cI, 12, .inl tow_11)), (q4im, .inl (cS, 2, .inr (.inr (.inr (.inr im)))))]) (va_runV (As := []) (rest := []) ⟨hx, hb, hml, hown, hts⟩ (k_X4_canWalk l dC dI cI cZ cS q4 q0 q0sg q1 q3 q3fi q3to q1ne q2 q3w q3fiw q3tow q4im s.heap.size ct sg si ft th he ma ro fi to ne ac wy fa fp thw hew maw row fiw tow im r_1 ac_2 wy_3 fa_4 fp_5 thw_6 hew_7 maw_8 row_9 fiw_10 tow_11 hc_12) (cwV 0 hts (kGood (kgV mG_225 mG_226 mG_227 mG_13 mG_223)) rfl rfl rfl ⟨rfl, hd_X4_canWalk⟩ ⟨Nat.le_of_ble_eq_true rfl, Nat.le_of_ble_eq_true rfl⟩) (kpV hK hN (hP.sub (ws' := [(q4, .inr (4, [.ref q0, .ref q1, .ref q2, .ref q4im])), (q0, .inr (0, [.ref q0sg, .int ct])), (q0sg, .inl (cI, 60, .inl sg)), (q1, .inr (1, [.ref q3, .ref q1ne, .int si, .int ft])), (q3, .inr (3, [.ref q3fi, .ref q3to, .int th, .int he, .int ma, .int ro])), (q3fi, .inl (cI, 12, .inl fi)), (q3to, .inl (cI, 12, .inl to)), (q1ne, .inl (cI, 8, .inl ne)), (q2, .inr (2, [.ref q3w, .int ac, .int wy, .int fa, .int fp])), (q3w, .inr (3, [.ref q3fiw, .ref q3tow, .int thw, .int hew, .int maw, .int row])), (q3fiw, .inl (cI, 12, .inl fiw)), (q3tow, .inl (cI, 12, .inl tow)), (q4im, .inl (cS, 2, .inr (.inr (.inr (.inr im)))))]) [0, 1, 2, 3, 4, 5, 6, 7, 8, 9, 10, 11, 12] rfl) (hD.sub (ws' := [(q4, .inr (4, [.ref q0, .ref q1, .ref q2, .ref q4im])), (q0, .inr (0, [.ref q0sg, .int ct])), (q0sg, .inl (cI, 60, .inl sg)), (q1, .inr (1, [.ref q3, .ref q1ne, .int si, .int ft])), (q3, .inr (3, [.ref q3fi, .ref q3to, .int th, .int he, .int ma, .int ro])), (q3fi, .inl (cI, 12, .inl fi)), (q3to, .inl (cI, 12, .inl to)), (q1ne, .inl (cI, 8, .inl ne)), (q2, .inr (2, [.ref q3w, .int ac, .int wy, .int fa, .int fp])), (q3w, .inr (3, [.ref q3fiw, .ref q3tow, .int thw, .int hew, .int maw, .int row])), (q3fiw, .inl (cI, 12, .inl fiw)), (q3tow, .inl (cI, 12, .inl tow)), (q4im, .inl (cS, 2, .inr (.inr (.inr (.inr im)))))]) [0, 1, 2, 3, 4, 5, 6, 7, 8, 9, 10, 11, 12] rfl rfl) rfl rfl rfl) rfl rfl hl.1 rfl (lv_room (Nat.le_of_ble_eq_true rfl)) dX4_done_1 ⟨Nat.zero_le _, Nat.zero_le _⟩) hP hD hS hA [0, 1, 2, 3, 4, 5, 6, 7, 8, 9, 10, 11, 12] [] [0, 1, 2, 3, 4, 5, 6, 7, 8, 9, 10, 11, 12] rfl rfl rfl (by decide) rfl rfl (fun H locs hP hD hS => ?_)
  refine lv_if_ne (tgt := 10) hx hb dX4_done_4 (by decide) (fun c_13 => ?_) (fun c_13 => ?_)
  · replace hs := if_n c_13 hs
    refine lv_aload_n hx hb dX4_done_10 rfl (lv_at hl 0 rfl) ?_
    refine va_get (D := (dC, dI)) (ci := 4) (v := .ref q1) (C := RX4) (T := TX4) (N := 4) hx hb hts (fun w h => kg1 (iG_4 w h)) hown hK hP 0 rfl rfl 1 (by decide) (hts _ (kg1 mG_174)) (fun _ h9 => h9) rfl dX4_done_11 ?_
    refine va_get (D := (dC, dI)) (ci := 1) (v := .ref q3) (C := RX1) (T := TX1) (N := 4) hx hb hts (fun w h => kg1 (iG_1 w h)) hown hK hP 3 rfl rfl 0 (by decide) (hts _ (kg1 mG_185)) (fun _ h9 => h9) rfl dX4_done_14 ?_
    refine lv_aload_n hx hb dX4_done_17 rfl (lv_at hl 0 rfl) ?_
    refine va_get (D := (dC, dI)) (ci := 4) (v := .ref q2) (C := RX4) (T := TX4) (N := 4) hx hb hts (fun w h => kg1 (iG_4 w h)) hown hK hP 0 rfl rfl 2 (by decide) (hts _ (kg1 mG_177)) (fun _ h9 => h9) rfl dX4_done_18 ?_
    refine va_get (D := (dC, dI)) (ci := 2) (v := .ref q3w) (C := RX2) (T := TX2) (N := 5) hx hb hts (fun w h => kg1 (iG_2 w h)) hown hK hP 8 rfl rfl 0 (by decide) (hts _ (kg1 mG_224)) (fun _ h9 => h9) rfl dX4_done_21 ?_
    obtain ⟨th_14, he_15, ma_16, ro_17, fi_18, to_19, hc_20, hs⟩ := ob6_e hs
    refine kcv (wr := [(q4, .inr (4, [.ref q0, .ref q1, .ref q2, .ref q4im])), (q0, .inr (0, [.ref q0sg, .int ct])), (q0sg, .inl (cI, 60, .inl sg)), (q1, .inr (1, [.ref q3, .ref q1ne, .int si, .int ft])), (q1ne, .inl (cI, 8, .inl ne)), (q2, .inr (2, [.ref q3w, .int ac_2, .int wy_3, .int fa_4, .int fp_5])), (q4im, .inl (cS, 2, .inr (.inr (.inr (.inr im)))))]) (ws' := [(q4, .inr (4, [.ref q0, .ref q1, .ref q2, .ref q4im])), (q0, .inr (0, [.ref q0sg, .int ct])), (q0sg, .inl (cI, 60, .inl sg)), (q1, .inr (1, [.ref q3, .ref q1ne, .int si, .int ft])), (q3, .inr (3, [.ref q3fi, .ref q3to, .int th_14, .int he_15, .int ma_16, .int ro_17])), (q3fi, .inl (cI, 12, .inl fi_18)), (q3to, .inl (cI, 12, .inl to_19)), (q1ne, .inl (cI, 8, .inl ne)), (q2, .inr (2, [.ref q3w, .int ac_2, .int wy_3, .int fa_4, .int fp_5])), (q3w, .inr (3, [.ref q3fiw, .ref q3tow, .int thw_6, .int hew_7, .int maw_8, .int row_9])), (q3fiw, .inl (cI, 12, .inl fiw_10)), (q3tow, .inl (cI, 12, .inl tow_11)), (q4im, .inl (cS, 2, .inr (.inr (.inr (.inr im)))))]) (va_runV (As := [.ref q3w]) (rest := []) ⟨hx, hb, hml, hown, hts⟩ (k_X3_copyFrom l dC dI cI cZ cS q3 q3fi q3to q3w q3fiw q3tow H.size th he ma ro fi to thw_6 hew_7 maw_8 row_9 fiw_10 tow_11 th_14 he_15 ma_16 ro_17 fi_18 to_19 hc_20) (cwV 1 hts (kGood (kgV mG_228 mG_50 mG_51 mG_30 mG_37)) rfl rfl rfl ⟨rfl, hd_X3_copyFrom⟩ ⟨Nat.le_of_ble_eq_true rfl, Nat.le_of_ble_eq_true rfl⟩) (kpV hK hN (hP.sub (ws' := [(q3, .inr (3, [.ref q3fi, .ref q3to, .int th, .int he, .int ma, .int ro])), (q3fi, .inl (cI, 12, .inl fi)), (q3to, .inl (cI, 12, .inl to)), (q3w, .inr (3, [.ref q3fiw, .ref q3tow, .int thw_6, .int hew_7, .int maw_8, .int row_9])), (q3fiw, .inl (cI, 12, .inl fiw_10)), (q3tow, .inl (cI, 12, .inl tow_11))]) [4, 5, 6, 9, 10, 11] rfl) (hD.sub (ws' := [(q3, .inr (3, [.ref q3fi, .ref q3to, .int th, .int he, .int ma, .int ro])), (q3fi, .inl (cI, 12, .inl fi)), (q3to, .inl (cI, 12, .inl to)), (q3w, .inr (3, [.ref q3fiw, .ref q3tow, .int thw_6, .int hew_7, .int maw_8, .int row_9])), (q3fiw, .inl (cI, 12, .inl fiw_10)), (q3tow, .inl (cI, 12, .inl tow_11))]) [4, 5, 6, 9, 10, 11] rfl rfl) rfl rfl rfl) rfl rfl hl.1 rfl (lv_room (Nat.le_of_ble_eq_true rfl)) dX4_done_24 ⟨Nat.zero_le _, Nat.zero_le _⟩) hP hD hS hA [4, 5, 6, 9, 10, 11] [0, 1, 2, 3, 7, 8, 12] [0, 1, 2, 3, 7, 8, 9, 4, 5, 10, 11, 12, 6] rfl rfl rfl (by decide) rfl rfl (fun H locs hP hD hS => ?_)
    refine lv_aload_n hx hb dX4_done_27 rfl (lv_at hl 0 rfl) ?_
    refine va_get (D := (dC, dI)) (ci := 4) (v := .ref q0) (C := RX4) (T := TX4) (N := 4) hx hb hts (fun w h => kg1 (iG_4 w h)) hown hK hP 0 rfl rfl 0 (by decide) (hts _ (kg1 mG_171)) (fun _ h9 => h9) rfl dX4_done_28 ?_
    obtain ⟨r_21, ct_22, hc_23, hs⟩ := ob2_e hs
    refine kci (wr := [(q4, .inr (4, [.ref q0, .ref q1, .ref q2, .ref q4im])), (q1, .inr (1, [.ref q3, .ref q1ne, .int si, .int ft])), (q3, .inr (3, [.ref q3fi, .ref q3to, .int th_14, .int he_15, .int ma_16, .int ro_17])), (q3fi, .inl (cI, 12, .inl fi_18)), (q3to, .inl (cI, 12, .inl to_19)), (q1ne, .inl (cI, 8, .inl ne)), (q2, .inr (2, [.ref q3w, .int ac_2, .int wy_3, .int fa_4, .int fp_5])), (q3w, .inr (3, [.ref q3fiw, .ref q3tow, .int thw_6, .int hew_7, .int maw_8, .int row_9])), (q3fiw, .inl (cI, 12, .inl fiw_10)), (q3tow, .inl (cI, 12, .inl tow_11)), (q4im, .inl (cS, 2, .inr (.inr (.inr (.inr im)))))]) (ws' := [(q4, .inr (4, [.ref q0, .ref q1, .ref q2, .ref q4im])), (q0, .inr (0, [.ref q0sg, .int ct_22])), (q0sg, .inl (cI, 60, .inl sg)), (q1, .inr (1, [.ref q3, .ref q1ne, .int si, .int ft])), (q3, .inr (3, [.ref q3fi, .ref q3to, .int th_14, .int he_15, .int ma_16, .int ro_17])), (q3fi, .inl (cI, 12, .inl fi_18)), (q3to, .inl (cI, 12, .inl to_19)), (q1ne, .inl (cI, 8, .inl ne)), (q2, .inr (2, [.ref q3w, .int ac_2, .int wy_3, .int fa_4, .int fp_5])), (q3w, .inr (3, [.ref q3fiw, .ref q3tow, .int thw_6, .int hew_7, .int maw_8, .int row_9])), (q3fiw, .inl (cI, 12, .inl fiw_10)), (q3tow, .inl (cI, 12, .inl tow_11)), (q4im, .inl (cS, 2, .inr (.inr (.inr (.inr im)))))]) (va_runV (As := []) (rest := []) ⟨hx, hb, hml, hown, hts⟩ (k_X0_clean l dC dI cI cZ cS q0 q0sg H.size ct sg r_21 ct_22 hc_23) (cwV 0 hts (kGood (kgV mG_210 mG_211 mG_212 mG_16 mG_8)) rfl rfl rfl ⟨rfl, hd_X0_clean⟩ ⟨Nat.le_of_ble_eq_true rfl, Nat.le_of_ble_eq_true rfl⟩) (kpV hK hN (hP.sub (ws' := [(q0, .inr (0, [.ref q0sg, .int ct])), (q0sg, .inl (cI, 60, .inl sg))]) [1, 2] rfl) (hD.sub (ws' := [(q0, .inr (0, [.ref q0sg, .int ct])), (q0sg, .inl (cI, 60, .inl sg))]) [1, 2] rfl rfl) rfl rfl rfl) rfl rfl hl.1 rfl (lv_room (Nat.le_of_ble_eq_true rfl)) dX4_done_31 ⟨Nat.zero_le _, Nat.zero_le _⟩) hP hD hS hA [1, 2] [0, 3, 4, 5, 6, 7, 8, 9, 10, 11, 12] [0, 11, 12, 1, 2, 3, 4, 5, 6, 7, 8, 9, 10] rfl rfl rfl (by decide) rfl rfl (fun H locs hP hD hS => ?_)
    refine lv_pop hx hb dX4_done_34 rfl ?_
    refine lv_aload_n hx hb dX4_done_35 rfl (lv_at hl 0 rfl) ?_
    refine va_get (D := (dC, dI)) (ci := 4) (v := .ref q2) (C := RX4) (T := TX4) (N := 4) hx hb hts (fun w h => kg1 (iG_4 w h)) hown hK hP 0 rfl rfl 2 (by decide) (hts _ (kg1 mG_177)) (fun _ h9 => h9) rfl dX4_done_36 ?_
    refine va_get (D := (dC, dI)) (ci := 2) (v := .int ac_2) (C := RX2) (T := TX2) (N := 5) hx hb hts (fun w h => kg1 (iG_2 w h)) hown hK hP 8 rfl rfl 1 (by decide) (hts _ (kg1 mG_218)) (fun _ h9 => h9) rfl dX4_done_39 ?_
    cases hs
    exact hret _ _ _ _ hP hD hS (vp_nar_int _) dX4_done_42
  · replace hs := if_p c_13 hs
    refine lv_bipush (v := -5) hx hb dX4_done_7 (by decide) ?_
    cases hs
    exact hret _ _ _ _ hP hD hS (vp_nar_int _) dX4_done_9
abbrev rm_X4_behind : Room := { frames := 6, cells := 0, slots := 0, locals := 131 }
theorem hd_X4_behind : yX4_behind.cls ≠ "java/lang/invoke/MethodHandle" ∧ yX4_behind.cls ≠ "java/lang/invoke/VarHandle" ∧ (parseMethodDescriptor yX4_behind.desc).map (fun d => d.parameters.length) = some 1 := by decide +kernel
set_option maxHeartbeats 4000000 in
set_option maxRecDepth 100000 in
theorem k_X4_behind (l : Launch) (dC : Nat → ClassId) (dI : Nat → Nat → Nat) (cI cZ cS : ClassId) (q4 q0 q0sg q1 q3 q3fi q3to q1ne q2 q3w q3fiw q3tow q4im : Nat) (sz : Nat) (ct : Int32) (sg : Ar) (si : Int32) (ft : Int32) (th : Int32) (he : Int32) (ma : Int32) (ro : Int32) (fi : Ar) (to : Ar) (ne : Ar) (ac : Int32) (wy : Int32) (fa : Int32) (fp : Int32) (thw : Int32) (hew : Int32) (maw : Int32) (row : Int32) (fiw : Ar) (tow : Ar) (im : Nat → Option Nat) (v1 : Int32) (r0 : Int32) (ac_o : Int32) (wy_o : Int32) (fa_o : Int32) (fp_o : Int32) (thw_o : Int32) (hew_o : Int32) (maw_o : Int32) (row_o : Int32) (fiw_o : Ar) (tow_o : Ar) (hs : m_X4_behind v1 ct sg th he ma ro fi to ac wy fa fp thw hew maw row fiw tow = some (r0, ac_o, wy_o, fa_o, fp_o, thw_o, hew_o, maw_o, row_o, fiw_o, tow_o)) : Met l yX4_behind (.code yX4_behind cX4_behind 2 (some .int) :: kG) rm_X4_behind (va_Pc [.ref q4, .int v1] (kW (dC, dI) cI cZ cS [(q4, .inr (4, [.ref q0, .ref q1, .ref q2, .ref q4im])), (q0, .inr (0, [.ref q0sg, .int ct])), (q0sg, .inl (cI, 60, .inl sg)), (q1, .inr (1, [.ref q3, .ref q1ne, .int si, .int ft])), (q3, .inr (3, [.ref q3fi, .ref q3to, .int th, .int he, .int ma, .int ro])), (q3fi, .inl (cI, 12, .inl fi)), (q3to, .inl (cI, 12, .inl to)), (q1ne, .inl (cI, 8, .inl ne)), (q2, .inr (2, [.ref q3w, .int ac, .int wy, .int fa, .int fp])), (q3w, .inr (3, [.ref q3fiw, .ref q3tow, .int thw, .int hew, .int maw, .int row])), (q3fiw, .inl (cI, 12, .inl fiw)), (q3tow, .inl (cI, 12, .inl tow)), (q4im, .inl (cS, 2, .inr (.inr (.inr (.inr im)))))] sz)) (kQi (dC, dI) [(q4, .inr (4, [.ref q0, .ref q1, .ref q2, .ref q4im])), (q0, .inr (0, [.ref q0sg, .int ct])), (q0sg, .inl (cI, 60, .inl sg)), (q1, .inr (1, [.ref q3, .ref q1ne, .int si, .int ft])), (q3, .inr (3, [.ref q3fi, .ref q3to, .int th, .int he, .int ma, .int ro])), (q3fi, .inl (cI, 12, .inl fi)), (q3to, .inl (cI, 12, .inl to)), (q1ne, .inl (cI, 8, .inl ne)), (q2, .inr (2, [.ref q3w, .int ac, .int wy, .int fa, .int fp])), (q3w, .inr (3, [.ref q3fiw, .ref q3tow, .int thw, .int hew, .int maw, .int row])), (q3fiw, .inl (cI, 12, .inl fiw)), (q3tow, .inl (cI, 12, .inl tow)), (q4im, .inl (cS, 2, .inr (.inr (.inr (.inr im)))))] [(q4, .inr (4, [.ref q0, .ref q1, .ref q2, .ref q4im])), (q0, .inr (0, [.ref q0sg, .int ct])), (q0sg, .inl (cI, 60, .inl sg)), (q1, .inr (1, [.ref q3, .ref q1ne, .int si, .int ft])), (q3, .inr (3, [.ref q3fi, .ref q3to, .int th, .int he, .int ma, .int ro])), (q3fi, .inl (cI, 12, .inl fi)), (q3to, .inl (cI, 12, .inl to)), (q1ne, .inl (cI, 8, .inl ne)), (q2, .inr (2, [.ref q3w, .int ac_o, .int wy_o, .int fa_o, .int fp_o])), (q3w, .inr (3, [.ref q3fiw, .ref q3tow, .int thw_o, .int hew_o, .int maw_o, .int row_o])), (q3fiw, .inl (cI, 12, .inl fiw_o)), (q3tow, .inl (cI, 12, .inl tow_o)), (q4im, .inl (cS, 2, .inr (.inr (.inr (.inr im)))))] sz r0) 0 0 (va_A [(q4, .inr (4, [.ref q0, .ref q1, .ref q2, .ref q4im])), (q0, .inr (0, [.ref q0sg, .int ct])), (q0sg, .inl (cI, 60, .inl sg)), (q1, .inr (1, [.ref q3, .ref q1ne, .int si, .int ft])), (q3, .inr (3, [.ref q3fi, .ref q3to, .int th, .int he, .int ma, .int ro])), (q3fi, .inl (cI, 12, .inl fi)), (q3to, .inl (cI, 12, .inl to)), (q1ne, .inl (cI, 8, .inl ne)), (q2, .inr (2, [.ref q3w, .int ac, .int wy, .int fa, .int fp])), (q3w, .inr (3, [.ref q3fiw, .ref q3tow, .int thw, .int hew, .int maw, .int row])), (q3fiw, .inl (cI, 12, .inl fiw)), (q3tow, .inl (cI, 12, .inl tow)), (q4im, .inl (cS, 2, .inr (.inr (.inr (.inr im)))))] sz) := by
  refine kMi (own := RX4) (ty := .int) rfl (by decide) rfl ?_ (Nat.le_of_ble_eq_true rfl)
  intro p e s m args below meth c Q A CF hK hN hA hP hD hret ls hl
  have hS : va_S A s.heap s.heap [] := va_S.rf
  obtain ⟨hx, hb, hml, hown, hts⟩ := id CF
  have hl : lv_has ls 2 [(0, .ref q4), (1, .int v1)] := hl
  unfold m_X4_behind at hs
  refine lv_iload_n hx hb dX4_behind_0 rfl (lv_at hl 1 rfl) ?_
  refine lv_iconst (v := 0) hx hb dX4_behind_1 (by decide) ?_
  refine lv_bipush (v := 11) hx hb dX4_behind_2 (by decide) ?_
  refine kpi (va_runS (As := [.int v1, .int (0 : Int32), .int (11 : Int32)]) (rest := []) ⟨hx, hb, hml, hown, hts⟩ (k_X4_isOutside l v1 (0 : Int32) (11 : Int32) _ rfl) (va_cwS 3 hts (kGood (kgS mG_188 mG_12 mG_13 mG_9)) rfl rfl rfl hd_X4_isOutside ⟨Nat.le_of_ble_eq_true rfl, Nat.le_of_ble_eq_true rfl⟩) preEq rfl rfl hl.1 rfl (lv_room (Nat.le_of_ble_eq_true rfl)) dX4_behind_4 ⟨Nat.zero_le _, Nat.zero_le _⟩) ?_
  refine lv_if_eq (tgt := 12) hx hb dX4_behind_7 (by decide) (fun c_1 => ?_) (fun c_1 => ?_)
  · replace hs := if_p c_1 hs
    refine lv_aload_n hx hb dX4_behind_12 rfl (lv_at hl 0 rfl) ?_
    obtain ⟨r_2, ac_3, wy_4, fa_5, fp_6, thw_7, hew_8, maw_9, row_10, fiw_11, tow_12, hc_13, hs⟩ := ob11_e hs
    refine kci (wr := []) (ws' := [(q4, .inr (4, [.ref q0, .ref q1, .ref q2, .ref q4im])), (q0, .inr (0, [.ref q0sg, .int ct])), (q0sg, .inl (cI, 60, .inl sg)), (q1, .inr (1, [.ref q3, .ref q1ne, .int si, .int ft])), (q3, .inr (3, [.ref q3fi, .ref q3to, .int th, .int he, .int ma, .int ro])), (q3fi, .inl (cI, 12, .inl fi)), (q3to, .inl (cI, 12, .inl to)), (q1ne, .inl (cI, 8, .inl ne)), (q2, .inr (2, [.ref q3w, .int ac_3, .int wy_4, .int fa_5, .int fp_6])), (q3w, .inr (3, [.ref q3fiw, .ref q3tow, .int thw_7, .int hew_8, .int maw_9, .int row_10])), (q3fiw, .inl (cI, 12, .inl fiw_11)), (q3tow, .inl (cI, 12, .inl tow_12)), (q4im, .inl (cS, 2, .inr (.inr (.inr (.inr im)))))]) (va_runV (As := []) (rest := []) ⟨hx, hb, hml, hown, hts⟩ (k_X4_canWalk l dC dI cI cZ cS q4 q0 q0sg q1 q3 q3fi q3to q1ne q2 q3w q3fiw q3tow q4im s.heap.size ct sg si ft th he ma ro fi to ne ac wy fa fp thw hew maw row fiw tow im r_2 ac_3 wy_4 fa_5 fp_6 thw_7 hew_8 maw_9 row_10 fiw_11 tow_12 hc_13) (cwV 0 hts (kGood (kgV mG_225 mG_226 mG_227 mG_13 mG_223)) rfl rfl rfl ⟨rfl, hd_X4_canWalk⟩ ⟨Nat.le_of_ble_eq_true rfl, Nat.le_of_ble_eq_true rfl⟩) (kpV hK hN (hP.sub (ws' := [(q4, .inr (4, [.ref q0, .ref q1, .ref q2, .ref q4im])), (q0, .inr (0, [.ref q0sg, .int ct])), (q0sg, .inl (cI, 60, .inl sg)), (q1, .inr (1, [.ref q3, .ref q1ne, .int si, .int ft])), (q3, .inr (3, [.ref q3fi, .ref q3to, .int th, .int he, .int ma, .int ro])), (q3fi, .inl (cI, 12, .inl fi)), (q3to, .inl (cI, 12, .inl to)), (q1ne, .inl (cI, 8, .inl ne)), (q2, .inr (2, [.ref q3w, .int ac, .int wy, .int fa, .int fp])), (q3w, .inr (3, [.ref q3fiw, .ref q3tow, .int thw, .int hew, .int maw, .int row])), (q3fiw, .inl (cI, 12, .inl fiw)), (q3tow, .inl (cI, 12, .inl tow)), (q4im, .inl (cS, 2, .inr (.inr (.inr (.inr im)))))]) [0, 1, 2, 3, 4, 5, 6, 7, 8, 9, 10, 11, 12] rfl) (hD.sub (ws' := [(q4, .inr (4, [.ref q0, .ref q1, .ref q2, .ref q4im])), (q0, .inr (0, [.ref q0sg, .int ct])), (q0sg, .inl (cI, 60, .inl sg)), (q1, .inr (1, [.ref q3, .ref q1ne, .int si, .int ft])), (q3, .inr (3, [.ref q3fi, .ref q3to, .int th, .int he, .int ma, .int ro])), (q3fi, .inl (cI, 12, .inl fi)), (q3to, .inl (cI, 12, .inl to)), (q1ne, .inl (cI, 8, .inl ne)), (q2, .inr (2, [.ref q3w, .int ac, .int wy, .int fa, .int fp])), (q3w, .inr (3, [.ref q3fiw, .ref q3tow, .int thw, .int hew, .int maw, .int row])), (q3fiw, .inl (cI, 12, .inl fiw)), (q3tow, .inl (cI, 12, .inl tow)), (q4im, .inl (cS, 2, .inr (.inr (.inr (.inr im)))))]) [0, 1, 2, 3, 4, 5, 6, 7, 8, 9, 10, 11, 12] rfl rfl) rfl rfl rfl) rfl rfl hl.1 rfl (lv_room (Nat.le_of_ble_eq_true rfl)) dX4_behind_13 ⟨Nat.zero_le _, Nat.zero_le _⟩) hP hD hS hA [0, 1, 2, 3, 4, 5, 6, 7, 8, 9, 10, 11, 12] [] [0, 1, 2, 3, 4, 5, 6, 7, 8, 9, 10, 11, 12] rfl rfl rfl (by decide) rfl rfl (fun H locs hP hD hS => ?_)
    refine lv_if_eq (tgt := 34) hx hb dX4_behind_16 (by decide) (fun c_14 => ?_) (fun c_14 => ?_)
    · replace hs := if_p c_14 hs
      refine lv_bipush (v := -5) hx hb dX4_behind_34 (by decide) ?_
      cases hs
      exact hret _ _ _ _ hP hD hS (vp_nar_int _) dX4_behind_36
    · replace hs := if_n c_14 hs
      refine lv_aload_n hx hb dX4_behind_19 rfl (lv_at hl 0 rfl) ?_
      refine va_get (D := (dC, dI)) (ci := 4) (v := .ref q2) (C := RX4) (T := TX4) (N := 4) hx hb hts (fun w h => kg1 (iG_4 w h)) hown hK hP 0 rfl rfl 2 (by decide) (hts _ (kg1 mG_177)) (fun _ h9 => h9) rfl dX4_behind_20 ?_
      refine va_get (D := (dC, dI)) (ci := 2) (v := .ref q3w) (C := RX2) (T := TX2) (N := 5) hx hb hts (fun w h => kg1 (iG_2 w h)) hown hK hP 8 rfl rfl 0 (by decide) (hts _ (kg1 mG_224)) (fun _ h9 => h9) rfl dX4_behind_23 ?_
      refine va_get (D := (dC, dI)) (ci := 3) (v := .ref q3fiw) (C := RX3) (T := TX3) (N := 6) hx hb hts (fun w h => kg1 (iG_3 w h)) hown hK hP 9 rfl rfl 0 (by decide) (hts _ (kg1 mG_186)) (fun _ h9 => h9) rfl dX4_behind_26 ?_
      refine lv_iload_n hx hb dX4_behind_29 rfl (lv_at hl 1 rfl) ?_
      obtain ⟨hg_15, hs⟩ := gd_e hs
      refine kald hx hb hK hP 10 0 rfl rfl (j := (Int32.toNatClampNeg v1)) rfl (inb_e hg_15) dX4_behind_30 ?_
      refine lv_goto (tgt := 36) hx hb dX4_behind_31 (by decide) ?_
      cases hs
      exact hret _ _ _ _ hP hD hS (vp_nar_int _) dX4_behind_36
  · replace hs := if_n c_1 hs
    refine lv_iconst (v := -1) hx hb dX4_behind_10 (by decide) ?_
    cases hs
    exact hret _ _ _ _ hP hD hS (vp_nar_int _) dX4_behind_11
abbrev rm_X4_then : Room := { frames := 6, cells := 0, slots := 0, locals := 131 }
theorem hd_X4_then : yX4_then.cls ≠ "java/lang/invoke/MethodHandle" ∧ yX4_then.cls ≠ "java/lang/invoke/VarHandle" ∧ (parseMethodDescriptor yX4_then.desc).map (fun d => d.parameters.length) = some 1 := by decide +kernel
set_option maxHeartbeats 4000000 in
set_option maxRecDepth 100000 in
theorem k_X4_then (l : Launch) (dC : Nat → ClassId) (dI : Nat → Nat → Nat) (cI cZ cS : ClassId) (q4 q0 q0sg q1 q3 q3fi q3to q1ne q2 q3w q3fiw q3tow q4im : Nat) (sz : Nat) (ct : Int32) (sg : Ar) (si : Int32) (ft : Int32) (th : Int32) (he : Int32) (ma : Int32) (ro : Int32) (fi : Ar) (to : Ar) (ne : Ar) (ac : Int32) (wy : Int32) (fa : Int32) (fp : Int32) (thw : Int32) (hew : Int32) (maw : Int32) (row : Int32) (fiw : Ar) (tow : Ar) (im : Nat → Option Nat) (v1 : Int32) (r0 : Int32) (ac_o : Int32) (wy_o : Int32) (fa_o : Int32) (fp_o : Int32) (thw_o : Int32) (hew_o : Int32) (maw_o : Int32) (row_o : Int32) (fiw_o : Ar) (tow_o : Ar) (hs : m_X4_then v1 ct sg th he ma ro fi to ac wy fa fp thw hew maw row fiw tow = some (r0, ac_o, wy_o, fa_o, fp_o, thw_o, hew_o, maw_o, row_o, fiw_o, tow_o)) : Met l yX4_then (.code yX4_then cX4_then 2 (some .int) :: kG) rm_X4_then (va_Pc [.ref q4, .int v1] (kW (dC, dI) cI cZ cS [(q4, .inr (4, [.ref q0, .ref q1, .ref q2, .ref q4im])), (q0, .inr (0, [.ref q0sg, .int ct])), (q0sg, .inl (cI, 60, .inl sg)), (q1, .inr (1, [.ref q3, .ref q1ne, .int si, .int ft])), (q3, .inr (3, [.ref q3fi, .ref q3to, .int th, .int he, .int ma, .int ro])), (q3fi, .inl (cI, 12, .inl fi)), (q3to, .inl (cI, 12, .inl to)), (q1ne, .inl (cI, 8, .inl ne)), (q2, .inr (2, [.ref q3w, .int ac, .int wy, .int fa, .int fp])), (q3w, .inr (3, [.ref q3fiw, .ref q3tow, .int thw, .int hew, .int maw, .int row])), (q3fiw, .inl (cI, 12, .inl fiw)), (q3tow, .inl (cI, 12, .inl tow)), (q4im, .inl (cS, 2, .inr (.inr (.inr (.inr im)))))] sz)) (kQi (dC, dI) [(q4, .inr (4, [.ref q0, .ref q1, .ref q2, .ref q4im])), (q0, .inr (0, [.ref q0sg, .int ct])), (q0sg, .inl (cI, 60, .inl sg)), (q1, .inr (1, [.ref q3, .ref q1ne, .int si, .int ft])), (q3, .inr (3, [.ref q3fi, .ref q3to, .int th, .int he, .int ma, .int ro])), (q3fi, .inl (cI, 12, .inl fi)), (q3to, .inl (cI, 12, .inl to)), (q1ne, .inl (cI, 8, .inl ne)), (q2, .inr (2, [.ref q3w, .int ac, .int wy, .int fa, .int fp])), (q3w, .inr (3, [.ref q3fiw, .ref q3tow, .int thw, .int hew, .int maw, .int row])), (q3fiw, .inl (cI, 12, .inl fiw)), (q3tow, .inl (cI, 12, .inl tow)), (q4im, .inl (cS, 2, .inr (.inr (.inr (.inr im)))))] [(q4, .inr (4, [.ref q0, .ref q1, .ref q2, .ref q4im])), (q0, .inr (0, [.ref q0sg, .int ct])), (q0sg, .inl (cI, 60, .inl sg)), (q1, .inr (1, [.ref q3, .ref q1ne, .int si, .int ft])), (q3, .inr (3, [.ref q3fi, .ref q3to, .int th, .int he, .int ma, .int ro])), (q3fi, .inl (cI, 12, .inl fi)), (q3to, .inl (cI, 12, .inl to)), (q1ne, .inl (cI, 8, .inl ne)), (q2, .inr (2, [.ref q3w, .int ac_o, .int wy_o, .int fa_o, .int fp_o])), (q3w, .inr (3, [.ref q3fiw, .ref q3tow, .int thw_o, .int hew_o, .int maw_o, .int row_o])), (q3fiw, .inl (cI, 12, .inl fiw_o)), (q3tow, .inl (cI, 12, .inl tow_o)), (q4im, .inl (cS, 2, .inr (.inr (.inr (.inr im)))))] sz r0) 0 0 (va_A [(q4, .inr (4, [.ref q0, .ref q1, .ref q2, .ref q4im])), (q0, .inr (0, [.ref q0sg, .int ct])), (q0sg, .inl (cI, 60, .inl sg)), (q1, .inr (1, [.ref q3, .ref q1ne, .int si, .int ft])), (q3, .inr (3, [.ref q3fi, .ref q3to, .int th, .int he, .int ma, .int ro])), (q3fi, .inl (cI, 12, .inl fi)), (q3to, .inl (cI, 12, .inl to)), (q1ne, .inl (cI, 8, .inl ne)), (q2, .inr (2, [.ref q3w, .int ac, .int wy, .int fa, .int fp])), (q3w, .inr (3, [.ref q3fiw, .ref q3tow, .int thw, .int hew, .int maw, .int row])), (q3fiw, .inl (cI, 12, .inl fiw)), (q3tow, .inl (cI, 12, .inl tow)), (q4im, .inl (cS, 2, .inr (.inr (.inr (.inr im)))))] sz) := by
  refine kMi (own := RX4) (ty := .int) rfl (by decide) rfl ?_ (Nat.le_of_ble_eq_true rfl)
  intro p e s m args below meth c Q A CF hK hN hA hP hD hret ls hl
  have hS : va_S A s.heap s.heap [] := va_S.rf
  obtain ⟨hx, hb, hml, hown, hts⟩ := id CF
  have hl : lv_has ls 2 [(0, .ref q4), (1, .int v1)] := hl
  unfold m_X4_then at hs
  refine lv_iload_n hx hb dX4_then_0 rfl (lv_at hl 1 rfl) ?_
  refine lv_iconst (v := 0) hx hb dX4_then_1 (by decide) ?_
  refine lv_iconst (v := 2) hx hb dX4_then_2 (by decide) ?_
  refine kpi (va_runS (As := [.int v1, .int (0 : Int32), .int (2 : Int32)]) (rest := []) ⟨hx, hb, hml, hown, hts⟩ (k_X4_isOutside l v1 (0 : Int32) (2 : Int32) _ rfl) (va_cwS 3 hts (kGood (kgS mG_188 mG_12 mG_13 mG_9)) rfl rfl rfl hd_X4_isOutside ⟨Nat.le_of_ble_eq_true rfl, Nat.le_of_ble_eq_true rfl⟩) preEq rfl rfl hl.1 rfl (lv_room (Nat.le_of_ble_eq_true rfl)) dX4_then_3 ⟨Nat.zero_le _, Nat.zero_le _⟩) ?_
  refine lv_if_eq (tgt := 12) hx hb dX4_then_6 (by decide) (fun c_1 => ?_) (fun c_1 => ?_)
  · replace hs := if_p c_1 hs
    refine lv_aload_n hx hb dX4_then_12 rfl (lv_at hl 0 rfl) ?_
    obtain ⟨r_2, ac_3, wy_4, fa_5, fp_6, thw_7, hew_8, maw_9, row_10, fiw_11, tow_12, hc_13, hs⟩ := ob11_e hs
    refine kci (wr := []) (ws' := [(q4, .inr (4, [.ref q0, .ref q1, .ref q2, .ref q4im])), (q0, .inr (0, [.ref q0sg, .int ct])), (q0sg, .inl (cI, 60, .inl sg)), (q1, .inr (1, [.ref q3, .ref q1ne, .int si, .int ft])), (q3, .inr (3, [.ref q3fi, .ref q3to, .int th, .int he, .int ma, .int ro])), (q3fi, .inl (cI, 12, .inl fi)), (q3to, .inl (cI, 12, .inl to)), (q1ne, .inl (cI, 8, .inl ne)), (q2, .inr (2, [.ref q3w, .int ac_3, .int wy_4, .int fa_5, .int fp_6])), (q3w, .inr (3, [.ref q3fiw, .ref q3tow, .int thw_7, .int hew_8, .int maw_9, .int row_10])), (q3fiw, .inl (cI, 12, .inl fiw_11)), (q3tow, .inl (cI, 12, .inl tow_12)), (q4im, .inl (cS, 2, .inr (.inr (.inr (.inr im)))))]) (va_runV (As := []) (rest := []) ⟨hx, hb, hml, hown, hts⟩ (k_X4_canWalk l dC dI cI cZ cS q4 q0 q0sg q1 q3 q3fi q3to q1ne q2 q3w q3fiw q3tow q4im s.heap.size ct sg si ft th he ma ro fi to ne ac wy fa fp thw hew maw row fiw tow im r_2 ac_3 wy_4 fa_5 fp_6 thw_7 hew_8 maw_9 row_10 fiw_11 tow_12 hc_13) (cwV 0 hts (kGood (kgV mG_225 mG_226 mG_227 mG_13 mG_223)) rfl rfl rfl ⟨rfl, hd_X4_canWalk⟩ ⟨Nat.le_of_ble_eq_true rfl, Nat.le_of_ble_eq_true rfl⟩) (kpV hK hN (hP.sub (ws' := [(q4, .inr (4, [.ref q0, .ref q1, .ref q2, .ref q4im])), (q0, .inr (0, [.ref q0sg, .int ct])), (q0sg, .inl (cI, 60, .inl sg)), (q1, .inr (1, [.ref q3, .ref q1ne, .int si, .int ft])), (q3, .inr (3, [.ref q3fi, .ref q3to, .int th, .int he, .int ma, .int ro])), (q3fi, .inl (cI, 12, .inl fi)), (q3to, .inl (cI, 12, .inl to)), (q1ne, .inl (cI, 8, .inl ne)), (q2, .inr (2, [.ref q3w, .int ac, .int wy, .int fa, .int fp])), (q3w, .inr (3, [.ref q3fiw, .ref q3tow, .int thw, .int hew, .int maw, .int row])), (q3fiw, .inl (cI, 12, .inl fiw)), (q3tow, .inl (cI, 12, .inl tow)), (q4im, .inl (cS, 2, .inr (.inr (.inr (.inr im)))))]) [0, 1, 2, 3, 4, 5, 6, 7, 8, 9, 10, 11, 12] rfl) (hD.sub (ws' := [(q4, .inr (4, [.ref q0, .ref q1, .ref q2, .ref q4im])), (q0, .inr (0, [.ref q0sg, .int ct])), (q0sg, .inl (cI, 60, .inl sg)), (q1, .inr (1, [.ref q3, .ref q1ne, .int si, .int ft])), (q3, .inr (3, [.ref q3fi, .ref q3to, .int th, .int he, .int ma, .int ro])), (q3fi, .inl (cI, 12, .inl fi)), (q3to, .inl (cI, 12, .inl to)), (q1ne, .inl (cI, 8, .inl ne)), (q2, .inr (2, [.ref q3w, .int ac, .int wy, .int fa, .int fp])), (q3w, .inr (3, [.ref q3fiw, .ref q3tow, .int thw, .int hew, .int maw, .int row])), (q3fiw, .inl (cI, 12, .inl fiw)), (q3tow, .inl (cI, 12, .inl tow)), (q4im, .inl (cS, 2, .inr (.inr (.inr (.inr im)))))]) [0, 1, 2, 3, 4, 5, 6, 7, 8, 9, 10, 11, 12] rfl rfl) rfl rfl rfl) rfl rfl hl.1 rfl (lv_room (Nat.le_of_ble_eq_true rfl)) dX4_then_13 ⟨Nat.zero_le _, Nat.zero_le _⟩) hP hD hS hA [0, 1, 2, 3, 4, 5, 6, 7, 8, 9, 10, 11, 12] [] [0, 1, 2, 3, 4, 5, 6, 7, 8, 9, 10, 11, 12] rfl rfl rfl (by decide) rfl rfl (fun H locs hP hD hS => ?_)
    refine lv_if_ne (tgt := 22) hx hb dX4_then_16 (by decide) (fun c_14 => ?_) (fun c_14 => ?_)
    · replace hs := if_n c_14 hs
      refine lv_iload_n hx hb dX4_then_22 rfl (lv_at hl 1 rfl) ?_
      by_cases c_15 : v1 = (0 : Int32)
      · replace hs := if_p c_15 hs
        refine lv_lookup (off := 25) (tgt := 48) hx hb dX4_then_23 (by decide) (by rw [c_15]; decide) (by decide) ?_
        refine lv_aload_n hx hb dX4_then_48 rfl (lv_at hl 0 rfl) ?_
        refine va_get (D := (dC, dI)) (ci := 4) (v := .ref q2) (C := RX4) (T := TX4) (N := 4) hx hb hts (fun w h => kg1 (iG_4 w h)) hown hK hP 0 rfl rfl 2 (by decide) (hts _ (kg1 mG_177)) (fun _ h9 => h9) rfl dX4_then_49 ?_
        refine va_get (D := (dC, dI)) (ci := 2) (v := .ref q3w) (C := RX2) (T := TX2) (N := 5) hx hb hts (fun w h => kg1 (iG_2 w h)) hown hK hP 8 rfl rfl 0 (by decide) (hts _ (kg1 mG_224)) (fun _ h9 => h9) rfl dX4_then_52 ?_
        obtain ⟨r_16, hc_17, hs⟩ := ob1_e hs
        refine kci (wr := [(q4, .inr (4, [.ref q0, .ref q1, .ref q2, .ref q4im])), (q0, .inr (0, [.ref q0sg, .int ct])), (q0sg, .inl (cI, 60, .inl sg)), (q1, .inr (1, [.ref q3, .ref q1ne, .int si, .int ft])), (q3, .inr (3, [.ref q3fi, .ref q3to, .int th, .int he, .int ma, .int ro])), (q3fi, .inl (cI, 12, .inl fi)), (q3to, .inl (cI, 12, .inl to)), (q1ne, .inl (cI, 8, .inl ne)), (q2, .inr (2, [.ref q3w, .int ac_3, .int wy_4, .int fa_5, .int fp_6])), (q4im, .inl (cS, 2, .inr (.inr (.inr (.inr im)))))]) (ws' := [(q4, .inr (4, [.ref q0, .ref q1, .ref q2, .ref q4im])), (q0, .inr (0, [.ref q0sg, .int ct])), (q0sg, .inl (cI, 60, .inl sg)), (q1, .inr (1, [.ref q3, .ref q1ne, .int si, .int ft])), (q3, .inr (3, [.ref q3fi, .ref q3to, .int th, .int he, .int ma, .int ro])), (q3fi, .inl (cI, 12, .inl fi)), (q3to, .inl (cI, 12, .inl to)), (q1ne, .inl (cI, 8, .inl ne)), (q2, .inr (2, [.ref q3w, .int ac_3, .int wy_4, .int fa_5, .int fp_6])), (q3w, .inr (3, [.ref q3fiw, .ref q3tow, .int thw_7, .int hew_8, .int maw_9, .int row_10])), (q3fiw, .inl (cI, 12, .inl fiw_11)), (q3tow, .inl (cI, 12, .inl tow_12)), (q4im, .inl (cS, 2, .inr (.inr (.inr (.inr im)))))]) (va_runV (As := []) (rest := []) ⟨hx, hb, hml, hown, hts⟩ (k_X3_downBits l dC dI cI cZ cS q3w q3fiw q3tow H.size thw_7 hew_8 maw_9 row_10 fiw_11 tow_12 r_16 hc_17) (cwV 0 hts (kGood (kgV mG_233 mG_126 mG_127 mG_30 mG_75)) rfl rfl rfl ⟨rfl, hd_X3_downBits⟩ ⟨Nat.le_of_ble_eq_true rfl, Nat.le_of_ble_eq_true rfl⟩) (kpV hK hN (hP.sub (ws' := [(q3w, .inr (3, [.ref q3fiw, .ref q3tow, .int thw_7, .int hew_8, .int maw_9, .int row_10])), (q3fiw, .inl (cI, 12, .inl fiw_11)), (q3tow, .inl (cI, 12, .inl tow_12))]) [9, 10, 11] rfl) (hD.sub (ws' := [(q3w, .inr (3, [.ref q3fiw, .ref q3tow, .int thw_7, .int hew_8, .int maw_9, .int row_10])), (q3fiw, .inl (cI, 12, .inl fiw_11)), (q3tow, .inl (cI, 12, .inl tow_12))]) [9, 10, 11] rfl rfl) rfl rfl rfl) rfl rfl hl.1 rfl (lv_room (Nat.le_of_ble_eq_true rfl)) dX4_then_55 ⟨Nat.zero_le _, Nat.zero_le _⟩) hP hD hS hA [9, 10, 11] [0, 1, 2, 3, 4, 5, 6, 7, 8, 12] [0, 1, 2, 3, 4, 5, 6, 7, 8, 10, 11, 12, 9] rfl rfl rfl (by decide) rfl rfl (fun H locs hP hD hS => ?_)
        cases hs
        exact hret _ _ _ _ hP hD hS (vp_nar_int _) dX4_then_58
      replace hs := if_n c_15 hs
      by_cases c_18 : v1 = (1 : Int32)
      · replace hs := if_p c_18 hs
        refine lv_lookup (off := 36) (tgt := 59) hx hb dX4_then_23 (by decide) (by rw [c_18]; decide) (by decide) ?_
        refine lv_aload_n hx hb dX4_then_59 rfl (lv_at hl 0 rfl) ?_
        refine va_get (D := (dC, dI)) (ci := 4) (v := .ref q2) (C := RX4) (T := TX4) (N := 4) hx hb hts (fun w h => kg1 (iG_4 w h)) hown hK hP 0 rfl rfl 2 (by decide) (hts _ (kg1 mG_177)) (fun _ h9 => h9) rfl dX4_then_60 ?_
        refine va_get (D := (dC, dI)) (ci := 2) (v := .ref q3w) (C := RX2) (T := TX2) (N := 5) hx hb hts (fun w h => kg1 (iG_2 w h)) hown hK hP 8 rfl rfl 0 (by decide) (hts _ (kg1 mG_224)) (fun _ h9 => h9) rfl dX4_then_63 ?_
        refine va_get (D := (dC, dI)) (ci := 3) (v := .int hew_8) (C := RX3) (T := TX3) (N := 6) hx hb hts (fun w h => kg1 (iG_3 w h)) hown hK hP 9 rfl rfl 3 (by decide) (hts _ (kg1 mG_231)) (fun _ h9 => h9) rfl dX4_then_66 ?_
        cases hs
        exact hret _ _ _ _ hP hD hS (vp_nar_int _) dX4_then_69
      replace hs := if_n c_18 hs
      refine lv_lookup (off := 47) (tgt := 70) hx hb dX4_then_23 (by decide) (show Op.lookupswitch.offset [(0, 25), (1, 36)] 47 (Int32.toInt v1) = 47 from by rw [lv_osw c_15 (by decide), lv_osw c_18 (by decide)]; rfl) (by decide) ?_
      refine lv_aload_n hx hb dX4_then_70 rfl (lv_at hl 0 rfl) ?_
      refine va_get (D := (dC, dI)) (ci := 4) (v := .ref q2) (C := RX4) (T := TX4) (N := 4) hx hb hts (fun w h => kg1 (iG_4 w h)) hown hK hP 0 rfl rfl 2 (by decide) (hts _ (kg1 mG_177)) (fun _ h9 => h9) rfl dX4_then_71 ?_
      refine va_get (D := (dC, dI)) (ci := 2) (v := .ref q3w) (C := RX2) (T := TX2) (N := 5) hx hb hts (fun w h => kg1 (iG_2 w h)) hown hK hP 8 rfl rfl 0 (by decide) (hts _ (kg1 mG_224)) (fun _ h9 => h9) rfl dX4_then_74 ?_
      refine va_get (D := (dC, dI)) (ci := 3) (v := .int row_10) (C := RX3) (T := TX3) (N := 6) hx hb hts (fun w h => kg1 (iG_3 w h)) hown hK hP 9 rfl rfl 5 (by decide) (hts _ (kg1 mG_232)) (fun _ h9 => h9) rfl dX4_then_77 ?_
      cases hs
      exact hret _ _ _ _ hP hD hS (vp_nar_int _) dX4_then_80
    · replace hs := if_p c_14 hs
      refine lv_bipush (v := -5) hx hb dX4_then_19 (by decide) ?_
      cases hs
      exact hret _ _ _ _ hP hD hS (vp_nar_int _) dX4_then_21
  · replace hs := if_n c_1 hs
    refine lv_bipush (v := -2) hx hb dX4_then_9 (by decide) ?_
    cases hs
    exact hret _ _ _ _ hP hD hS (vp_nar_int _) dX4_then_11
abbrev rm_X4_fell : Room := { frames := 6, cells := 0, slots := 0, locals := 131 }
theorem hd_X4_fell : yX4_fell.cls ≠ "java/lang/invoke/MethodHandle" ∧ yX4_fell.cls ≠ "java/lang/invoke/VarHandle" ∧ (parseMethodDescriptor yX4_fell.desc).map (fun d => d.parameters.length) = some 1 := by decide +kernel
set_option maxHeartbeats 4000000 in
set_option maxRecDepth 100000 in
theorem k_X4_fell (l : Launch) (dC : Nat → ClassId) (dI : Nat → Nat → Nat) (cI cZ cS : ClassId) (q4 q0 q0sg q1 q3 q3fi q3to q1ne q2 q3w q3fiw q3tow q4im : Nat) (sz : Nat) (ct : Int32) (sg : Ar) (si : Int32) (ft : Int32) (th : Int32) (he : Int32) (ma : Int32) (ro : Int32) (fi : Ar) (to : Ar) (ne : Ar) (ac : Int32) (wy : Int32) (fa : Int32) (fp : Int32) (thw : Int32) (hew : Int32) (maw : Int32) (row : Int32) (fiw : Ar) (tow : Ar) (im : Nat → Option Nat) (v1 : Int32) (r0 : Int32) (ac_o : Int32) (wy_o : Int32) (fa_o : Int32) (fp_o : Int32) (thw_o : Int32) (hew_o : Int32) (maw_o : Int32) (row_o : Int32) (fiw_o : Ar) (tow_o : Ar) (hs : m_X4_fell v1 ct sg th he ma ro fi to ac wy fa fp thw hew maw row fiw tow = some (r0, ac_o, wy_o, fa_o, fp_o, thw_o, hew_o, maw_o, row_o, fiw_o, tow_o)) : Met l yX4_fell (.code yX4_fell cX4_fell 2 (some .int) :: kG) rm_X4_fell (va_Pc [.ref q4, .int v1] (kW (dC, dI) cI cZ cS [(q4, .inr (4, [.ref q0, .ref q1, .ref q2, .ref q4im])), (q0, .inr (0, [.ref q0sg, .int ct])), (q0sg, .inl (cI, 60, .inl sg)), (q1, .inr (1, [.ref q3, .ref q1ne, .int si, .int ft])), (q3, .inr (3, [.ref q3fi, .ref q3to, .int th, .int he, .int ma, .int ro])), (q3fi, .inl (cI, 12, .inl fi)), (q3to, .inl (cI, 12, .inl to)), (q1ne, .inl (cI, 8, .inl ne)), (q2, .inr (2, [.ref q3w, .int ac, .int wy, .int fa, .int fp])), (q3w, .inr (3, [.ref q3fiw, .ref q3tow, .int thw, .int hew, .int maw, .int row])), (q3fiw, .inl (cI, 12, .inl fiw)), (q3tow, .inl (cI, 12, .inl tow)), (q4im, .inl (cS, 2, .inr (.inr (.inr (.inr im)))))] sz)) (kQi (dC, dI) [(q4, .inr (4, [.ref q0, .ref q1, .ref q2, .ref q4im])), (q0, .inr (0, [.ref q0sg, .int ct])), (q0sg, .inl (cI, 60, .inl sg)), (q1, .inr (1, [.ref q3, .ref q1ne, .int si, .int ft])), (q3, .inr (3, [.ref q3fi, .ref q3to, .int th, .int he, .int ma, .int ro])), (q3fi, .inl (cI, 12, .inl fi)), (q3to, .inl (cI, 12, .inl to)), (q1ne, .inl (cI, 8, .inl ne)), (q2, .inr (2, [.ref q3w, .int ac, .int wy, .int fa, .int fp])), (q3w, .inr (3, [.ref q3fiw, .ref q3tow, .int thw, .int hew, .int maw, .int row])), (q3fiw, .inl (cI, 12, .inl fiw)), (q3tow, .inl (cI, 12, .inl tow)), (q4im, .inl (cS, 2, .inr (.inr (.inr (.inr im)))))] [(q4, .inr (4, [.ref q0, .ref q1, .ref q2, .ref q4im])), (q0, .inr (0, [.ref q0sg, .int ct])), (q0sg, .inl (cI, 60, .inl sg)), (q1, .inr (1, [.ref q3, .ref q1ne, .int si, .int ft])), (q3, .inr (3, [.ref q3fi, .ref q3to, .int th, .int he, .int ma, .int ro])), (q3fi, .inl (cI, 12, .inl fi)), (q3to, .inl (cI, 12, .inl to)), (q1ne, .inl (cI, 8, .inl ne)), (q2, .inr (2, [.ref q3w, .int ac_o, .int wy_o, .int fa_o, .int fp_o])), (q3w, .inr (3, [.ref q3fiw, .ref q3tow, .int thw_o, .int hew_o, .int maw_o, .int row_o])), (q3fiw, .inl (cI, 12, .inl fiw_o)), (q3tow, .inl (cI, 12, .inl tow_o)), (q4im, .inl (cS, 2, .inr (.inr (.inr (.inr im)))))] sz r0) 0 0 (va_A [(q4, .inr (4, [.ref q0, .ref q1, .ref q2, .ref q4im])), (q0, .inr (0, [.ref q0sg, .int ct])), (q0sg, .inl (cI, 60, .inl sg)), (q1, .inr (1, [.ref q3, .ref q1ne, .int si, .int ft])), (q3, .inr (3, [.ref q3fi, .ref q3to, .int th, .int he, .int ma, .int ro])), (q3fi, .inl (cI, 12, .inl fi)), (q3to, .inl (cI, 12, .inl to)), (q1ne, .inl (cI, 8, .inl ne)), (q2, .inr (2, [.ref q3w, .int ac, .int wy, .int fa, .int fp])), (q3w, .inr (3, [.ref q3fiw, .ref q3tow, .int thw, .int hew, .int maw, .int row])), (q3fiw, .inl (cI, 12, .inl fiw)), (q3tow, .inl (cI, 12, .inl tow)), (q4im, .inl (cS, 2, .inr (.inr (.inr (.inr im)))))] sz) := by
  refine kMi (own := RX4) (ty := .int) rfl (by decide) rfl ?_ (Nat.le_of_ble_eq_true rfl)
  intro p e s m args below meth c Q A CF hK hN hA hP hD hret ls hl
  have hS : va_S A s.heap s.heap [] := va_S.rf
  obtain ⟨hx, hb, hml, hown, hts⟩ := id CF
  have hl : lv_has ls 2 [(0, .ref q4), (1, .int v1)] := hl
  unfold m_X4_fell at hs
  refine lv_iload_n hx hb dX4_fell_0 rfl (lv_at hl 1 rfl) ?_
  refine lv_iconst (v := 0) hx hb dX4_fell_1 (by decide) ?_
  refine lv_iconst (v := 1) hx hb dX4_fell_2 (by decide) ?_
  refine kpi (va_runS (As := [.int v1, .int (0 : Int32), .int (1 : Int32)]) (rest := []) ⟨hx, hb, hml, hown, hts⟩ (k_X4_isOutside l v1 (0 : Int32) (1 : Int32) _ rfl) (va_cwS 3 hts (kGood (kgS mG_188 mG_12 mG_13 mG_9)) rfl rfl rfl hd_X4_isOutside ⟨Nat.le_of_ble_eq_true rfl, Nat.le_of_ble_eq_true rfl⟩) preEq rfl rfl hl.1 rfl (lv_room (Nat.le_of_ble_eq_true rfl)) dX4_fell_3 ⟨Nat.zero_le _, Nat.zero_le _⟩) ?_
  refine lv_if_eq (tgt := 12) hx hb dX4_fell_6 (by decide) (fun c_1 => ?_) (fun c_1 => ?_)
  · replace hs := if_p c_1 hs
    refine lv_aload_n hx hb dX4_fell_12 rfl (lv_at hl 0 rfl) ?_
    obtain ⟨r_2, ac_3, wy_4, fa_5, fp_6, thw_7, hew_8, maw_9, row_10, fiw_11, tow_12, hc_13, hs⟩ := ob11_e hs
    refine kci (wr := []) (ws' := [(q4, .inr (4, [.ref q0, .ref q1, .ref q2, .ref q4im])), (q0, .inr (0, [.ref q0sg, .int ct])), (q0sg, .inl (cI, 60, .inl sg)), (q1, .inr (1, [.ref q3, .ref q1ne, .int si, .int ft])), (q3, .inr (3, [.ref q3fi, .ref q3to, .int th, .int he, .int ma, .int ro])), (q3fi, .inl (cI, 12, .inl fi)), (q3to, .inl (cI, 12, .inl to)), (q1ne, .inl (cI, 8, .inl ne)), (q2, .inr (2, [.ref q3w, .int ac_3, .int wy_4, .int fa_5, .int fp_6])), (q3w, .inr (3, [.ref q3fiw, .ref q3tow, .int thw_7, .int hew_8, .int maw_9, .int row_10])), (q3fiw, .inl (cI, 12, .inl fiw_11)), (q3tow, .inl (cI, 12, .inl tow_12)), (q4im, .inl (cS, 2, .inr (.inr (.inr (.inr im)))))]) (va_runV (As := []) (rest := []) ⟨hx, hb, hml, hown, hts⟩ (k_X4_canWalk l dC dI cI cZ cS q4 q0 q0sg q1 q3 q3fi q3to q1ne q2 q3w q3fiw q3tow q4im s.heap.size ct sg si ft th he ma ro fi to ne ac wy fa fp thw hew maw row fiw tow im r_2 ac_3 wy_4 fa_5 fp_6 thw_7 hew_8 maw_9 row_10 fiw_11 tow_12 hc_13) (cwV 0 hts (kGood (kgV mG_225 mG_226 mG_227 mG_13 mG_223)) rfl rfl rfl ⟨rfl, hd_X4_canWalk⟩ ⟨Nat.le_of_ble_eq_true rfl, Nat.le_of_ble_eq_true rfl⟩) (kpV hK hN (hP.sub (ws' := [(q4, .inr (4, [.ref q0, .ref q1, .ref q2, .ref q4im])), (q0, .inr (0, [.ref q0sg, .int ct])), (q0sg, .inl (cI, 60, .inl sg)), (q1, .inr (1, [.ref q3, .ref q1ne, .int si, .int ft])), (q3, .inr (3, [.ref q3fi, .ref q3to, .int th, .int he, .int ma, .int ro])), (q3fi, .inl (cI, 12, .inl fi)), (q3to, .inl (cI, 12, .inl to)), (q1ne, .inl (cI, 8, .inl ne)), (q2, .inr (2, [.ref q3w, .int ac, .int wy, .int fa, .int fp])), (q3w, .inr (3, [.ref q3fiw, .ref q3tow, .int thw, .int hew, .int maw, .int row])), (q3fiw, .inl (cI, 12, .inl fiw)), (q3tow, .inl (cI, 12, .inl tow)), (q4im, .inl (cS, 2, .inr (.inr (.inr (.inr im)))))]) [0, 1, 2, 3, 4, 5, 6, 7, 8, 9, 10, 11, 12] rfl) (hD.sub (ws' := [(q4, .inr (4, [.ref q0, .ref q1, .ref q2, .ref q4im])), (q0, .inr (0, [.ref q0sg, .int ct])), (q0sg, .inl (cI, 60, .inl sg)), (q1, .inr (1, [.ref q3, .ref q1ne, .int si, .int ft])), (q3, .inr (3, [.ref q3fi, .ref q3to, .int th, .int he, .int ma, .int ro])), (q3fi, .inl (cI, 12, .inl fi)), (q3to, .inl (cI, 12, .inl to)), (q1ne, .inl (cI, 8, .inl ne)), (q2, .inr (2, [.ref q3w, .int ac, .int wy, .int fa, .int fp])), (q3w, .inr (3, [.ref q3fiw, .ref q3tow, .int thw, .int hew, .int maw, .int row])), (q3fiw, .inl (cI, 12, .inl fiw)), (q3tow, .inl (cI, 12, .inl tow)), (q4im, .inl (cS, 2, .inr (.inr (.inr (.inr im)))))]) [0, 1, 2, 3, 4, 5, 6, 7, 8, 9, 10, 11, 12] rfl rfl) rfl rfl rfl) rfl rfl hl.1 rfl (lv_room (Nat.le_of_ble_eq_true rfl)) dX4_fell_13 ⟨Nat.zero_le _, Nat.zero_le _⟩) hP hD hS hA [0, 1, 2, 3, 4, 5, 6, 7, 8, 9, 10, 11, 12] [] [0, 1, 2, 3, 4, 5, 6, 7, 8, 9, 10, 11, 12] rfl rfl rfl (by decide) rfl rfl (fun H locs hP hD hS => ?_)
    refine lv_if_ne (tgt := 22) hx hb dX4_fell_16 (by decide) (fun c_14 => ?_) (fun c_14 => ?_)
    · replace hs := if_n c_14 hs
      refine lv_iload_n hx hb dX4_fell_22 rfl (lv_at hl 1 rfl) ?_
      refine lv_if_ne (tgt := 36) hx hb dX4_fell_23 (by decide) (fun c_15 => ?_) (fun c_15 => ?_)
      · replace hs := if_n c_15 hs
        refine lv_aload_n hx hb dX4_fell_36 rfl (lv_at hl 0 rfl) ?_
        refine va_get (D := (dC, dI)) (ci := 4) (v := .ref q2) (C := RX4) (T := TX4) (N := 4) hx hb hts (fun w h => kg1 (iG_4 w h)) hown hK hP 0 rfl rfl 2 (by decide) (hts _ (kg1 mG_177)) (fun _ h9 => h9) rfl dX4_fell_37 ?_
        refine va_get (D := (dC, dI)) (ci := 2) (v := .int fp_6) (C := RX2) (T := TX2) (N := 5) hx hb hts (fun w h => kg1 (iG_2 w h)) hown hK hP 8 rfl rfl 4 (by decide) (hts _ (kg1 mG_236)) (fun _ h9 => h9) rfl dX4_fell_40 ?_
        cases hs
        exact hret _ _ _ _ hP hD hS (vp_nar_int _) dX4_fell_43
      · replace hs := if_p c_15 hs
        refine lv_aload_n hx hb dX4_fell_26 rfl (lv_at hl 0 rfl) ?_
        refine va_get (D := (dC, dI)) (ci := 4) (v := .ref q2) (C := RX4) (T := TX4) (N := 4) hx hb hts (fun w h => kg1 (iG_4 w h)) hown hK hP 0 rfl rfl 2 (by decide) (hts _ (kg1 mG_177)) (fun _ h9 => h9) rfl dX4_fell_27 ?_
        refine va_get (D := (dC, dI)) (ci := 2) (v := .int fa_5) (C := RX2) (T := TX2) (N := 5) hx hb hts (fun w h => kg1 (iG_2 w h)) hown hK hP 8 rfl rfl 3 (by decide) (hts _ (kg1 mG_235)) (fun _ h9 => h9) rfl dX4_fell_30 ?_
        refine lv_goto (tgt := 43) hx hb dX4_fell_33 (by decide) ?_
        cases hs
        exact hret _ _ _ _ hP hD hS (vp_nar_int _) dX4_fell_43
    · replace hs := if_p c_14 hs
      refine lv_bipush (v := -5) hx hb dX4_fell_19 (by decide) ?_
      cases hs
      exact hret _ _ _ _ hP hD hS (vp_nar_int _) dX4_fell_21
  · replace hs := if_n c_1 hs
    refine lv_bipush (v := -2) hx hb dX4_fell_9 (by decide) ?_
    cases hs
    exact hret _ _ _ _ hP hD hS (vp_nar_int _) dX4_fell_11
abbrev rm_X4_down : Room := { frames := 1, cells := 0, slots := 0, locals := 22 }
theorem hd_X4_down : yX4_down.cls ≠ "java/lang/invoke/MethodHandle" ∧ yX4_down.cls ≠ "java/lang/invoke/VarHandle" ∧ (parseMethodDescriptor yX4_down.desc).map (fun d => d.parameters.length) = some 0 := by decide +kernel
set_option maxHeartbeats 4000000 in
set_option maxRecDepth 100000 in
theorem k_X4_down (l : Launch) (dC : Nat → ClassId) (dI : Nat → Nat → Nat) (cI cZ cS : ClassId) (q4 q0 q0sg q1 q3 q3fi q3to q1ne q2 q3w q3fiw q3tow q4im : Nat) (sz : Nat) (ct : Int32) (sg : Ar) (si : Int32) (ft : Int32) (th : Int32) (he : Int32) (ma : Int32) (ro : Int32) (fi : Ar) (to : Ar) (ne : Ar) (ac : Int32) (wy : Int32) (fa : Int32) (fp : Int32) (thw : Int32) (hew : Int32) (maw : Int32) (row : Int32) (fiw : Ar) (tow : Ar) (im : Nat → Option Nat)  (r0 : Int32) (hs : m_X4_down fi = some r0) : Met l yX4_down (.code yX4_down cX4_down 1 (some .int) :: kG) rm_X4_down (va_Pc [.ref q4] (kW (dC, dI) cI cZ cS [(q4, .inr (4, [.ref q0, .ref q1, .ref q2, .ref q4im])), (q0, .inr (0, [.ref q0sg, .int ct])), (q0sg, .inl (cI, 60, .inl sg)), (q1, .inr (1, [.ref q3, .ref q1ne, .int si, .int ft])), (q3, .inr (3, [.ref q3fi, .ref q3to, .int th, .int he, .int ma, .int ro])), (q3fi, .inl (cI, 12, .inl fi)), (q3to, .inl (cI, 12, .inl to)), (q1ne, .inl (cI, 8, .inl ne)), (q2, .inr (2, [.ref q3w, .int ac, .int wy, .int fa, .int fp])), (q3w, .inr (3, [.ref q3fiw, .ref q3tow, .int thw, .int hew, .int maw, .int row])), (q3fiw, .inl (cI, 12, .inl fiw)), (q3tow, .inl (cI, 12, .inl tow)), (q4im, .inl (cS, 2, .inr (.inr (.inr (.inr im)))))] sz)) (kQi (dC, dI) [(q4, .inr (4, [.ref q0, .ref q1, .ref q2, .ref q4im])), (q0, .inr (0, [.ref q0sg, .int ct])), (q0sg, .inl (cI, 60, .inl sg)), (q1, .inr (1, [.ref q3, .ref q1ne, .int si, .int ft])), (q3, .inr (3, [.ref q3fi, .ref q3to, .int th, .int he, .int ma, .int ro])), (q3fi, .inl (cI, 12, .inl fi)), (q3to, .inl (cI, 12, .inl to)), (q1ne, .inl (cI, 8, .inl ne)), (q2, .inr (2, [.ref q3w, .int ac, .int wy, .int fa, .int fp])), (q3w, .inr (3, [.ref q3fiw, .ref q3tow, .int thw, .int hew, .int maw, .int row])), (q3fiw, .inl (cI, 12, .inl fiw)), (q3tow, .inl (cI, 12, .inl tow)), (q4im, .inl (cS, 2, .inr (.inr (.inr (.inr im)))))] [(q4, .inr (4, [.ref q0, .ref q1, .ref q2, .ref q4im])), (q0, .inr (0, [.ref q0sg, .int ct])), (q0sg, .inl (cI, 60, .inl sg)), (q1, .inr (1, [.ref q3, .ref q1ne, .int si, .int ft])), (q3, .inr (3, [.ref q3fi, .ref q3to, .int th, .int he, .int ma, .int ro])), (q3fi, .inl (cI, 12, .inl fi)), (q3to, .inl (cI, 12, .inl to)), (q1ne, .inl (cI, 8, .inl ne)), (q2, .inr (2, [.ref q3w, .int ac, .int wy, .int fa, .int fp])), (q3w, .inr (3, [.ref q3fiw, .ref q3tow, .int thw, .int hew, .int maw, .int row])), (q3fiw, .inl (cI, 12, .inl fiw)), (q3tow, .inl (cI, 12, .inl tow)), (q4im, .inl (cS, 2, .inr (.inr (.inr (.inr im)))))] sz r0) 0 0 (va_A [(q4, .inr (4, [.ref q0, .ref q1, .ref q2, .ref q4im])), (q0, .inr (0, [.ref q0sg, .int ct])), (q0sg, .inl (cI, 60, .inl sg)), (q1, .inr (1, [.ref q3, .ref q1ne, .int si, .int ft])), (q3, .inr (3, [.ref q3fi, .ref q3to, .int th, .int he, .int ma, .int ro])), (q3fi, .inl (cI, 12, .inl fi)), (q3to, .inl (cI, 12, .inl to)), (q1ne, .inl (cI, 8, .inl ne)), (q2, .inr (2, [.ref q3w, .int ac, .int wy, .int fa, .int fp])), (q3w, .inr (3, [.ref q3fiw, .ref q3tow, .int thw, .int hew, .int maw, .int row])), (q3fiw, .inl (cI, 12, .inl fiw)), (q3tow, .inl (cI, 12, .inl tow)), (q4im, .inl (cS, 2, .inr (.inr (.inr (.inr im)))))] sz) := by
  refine kMi (own := RX4) (ty := .int) rfl (by decide) rfl ?_ (Nat.le_of_ble_eq_true rfl)
  intro p e s m args below meth c Q A CF hK hN hA hP hD hret ls hl
  have hS : va_S A s.heap s.heap [] := va_S.rf
  obtain ⟨hx, hb, hml, hown, hts⟩ := id CF
  have hl : lv_has ls 1 [(0, .ref q4)] := hl
  unfold m_X4_down at hs
  refine lv_aload_n hx hb dX4_down_0 rfl (lv_at hl 0 rfl) ?_
  refine va_get (D := (dC, dI)) (ci := 4) (v := .ref q1) (C := RX4) (T := TX4) (N := 4) hx hb hts (fun w h => kg1 (iG_4 w h)) hown hK hP 0 rfl rfl 1 (by decide) (hts _ (kg1 mG_174)) (fun _ h9 => h9) rfl dX4_down_1 ?_
  refine va_get (D := (dC, dI)) (ci := 1) (v := .ref q3) (C := RX1) (T := TX1) (N := 4) hx hb hts (fun w h => kg1 (iG_1 w h)) hown hK hP 3 rfl rfl 0 (by decide) (hts _ (kg1 mG_185)) (fun _ h9 => h9) rfl dX4_down_4 ?_
  obtain ⟨r_1, hc_2, hs⟩ := ob1_e hs
  refine kci (wr := [(q4, .inr (4, [.ref q0, .ref q1, .ref q2, .ref q4im])), (q0, .inr (0, [.ref q0sg, .int ct])), (q0sg, .inl (cI, 60, .inl sg)), (q1, .inr (1, [.ref q3, .ref q1ne, .int si, .int ft])), (q1ne, .inl (cI, 8, .inl ne)), (q2, .inr (2, [.ref q3w, .int ac, .int wy, .int fa, .int fp])), (q3w, .inr (3, [.ref q3fiw, .ref q3tow, .int thw, .int hew, .int maw, .int row])), (q3fiw, .inl (cI, 12, .inl fiw)), (q3tow, .inl (cI, 12, .inl tow)), (q4im, .inl (cS, 2, .inr (.inr (.inr (.inr im)))))]) (ws' := [(q4, .inr (4, [.ref q0, .ref q1, .ref q2, .ref q4im])), (q0, .inr (0, [.ref q0sg, .int ct])), (q0sg, .inl (cI, 60, .inl sg)), (q1, .inr (1, [.ref q3, .ref q1ne, .int si, .int ft])), (q3, .inr (3, [.ref q3fi, .ref q3to, .int th, .int he, .int ma, .int ro])), (q3fi, .inl (cI, 12, .inl fi)), (q3to, .inl (cI, 12, .inl to)), (q1ne, .inl (cI, 8, .inl ne)), (q2, .inr (2, [.ref q3w, .int ac, .int wy, .int fa, .int fp])), (q3w, .inr (3, [.ref q3fiw, .ref q3tow, .int thw, .int hew, .int maw, .int row])), (q3fiw, .inl (cI, 12, .inl fiw)), (q3tow, .inl (cI, 12, .inl tow)), (q4im, .inl (cS, 2, .inr (.inr (.inr (.inr im)))))]) (va_runV (As := []) (rest := []) ⟨hx, hb, hml, hown, hts⟩ (k_X3_downBits l dC dI cI cZ cS q3 q3fi q3to s.heap.size th he ma ro fi to r_1 hc_2) (cwV 0 hts (kGood (kgV mG_233 mG_126 mG_127 mG_30 mG_75)) rfl rfl rfl ⟨rfl, hd_X3_downBits⟩ ⟨Nat.le_of_ble_eq_true rfl, Nat.le_of_ble_eq_true rfl⟩) (kpV hK hN (hP.sub (ws' := [(q3, .inr (3, [.ref q3fi, .ref q3to, .int th, .int he, .int ma, .int ro])), (q3fi, .inl (cI, 12, .inl fi)), (q3to, .inl (cI, 12, .inl to))]) [4, 5, 6] rfl) (hD.sub (ws' := [(q3, .inr (3, [.ref q3fi, .ref q3to, .int th, .int he, .int ma, .int ro])), (q3fi, .inl (cI, 12, .inl fi)), (q3to, .inl (cI, 12, .inl to))]) [4, 5, 6] rfl rfl) rfl rfl rfl) rfl rfl hl.1 rfl (lv_room (Nat.le_of_ble_eq_true rfl)) dX4_down_7 ⟨Nat.zero_le _, Nat.zero_le _⟩) hP hD hS hA [4, 5, 6] [0, 1, 2, 3, 7, 8, 9, 10, 11, 12] [0, 1, 2, 3, 10, 11, 12, 4, 5, 6, 7, 8, 9] rfl rfl rfl (by decide) rfl rfl (fun H locs hP hD hS => ?_)
  cases hs
  exact hret _ _ _ _ hP hD hS (vp_nar_int _) dX4_down_10
abbrev rm_X4_shout : Room := { frames := 3, cells := 0, slots := 0, locals := 71 }
theorem hd_X4_shout : yX4_shout.cls ≠ "java/lang/invoke/MethodHandle" ∧ yX4_shout.cls ≠ "java/lang/invoke/VarHandle" ∧ (parseMethodDescriptor yX4_shout.desc).map (fun d => d.parameters.length) = some 1 := by decide +kernel
set_option maxHeartbeats 4000000 in
set_option maxRecDepth 100000 in
theorem k_X4_shout (l : Launch) (dC : Nat → ClassId) (dI : Nat → Nat → Nat) (cI cZ cS : ClassId) (q4 q0 q0sg q1 q3 q3fi q3to q1ne q2 q3w q3fiw q3tow q4im : Nat) (sz : Nat) (ct : Int32) (sg : Ar) (si : Int32) (ft : Int32) (th : Int32) (he : Int32) (ma : Int32) (ro : Int32) (fi : Ar) (to : Ar) (ne : Ar) (ac : Int32) (wy : Int32) (fa : Int32) (fp : Int32) (thw : Int32) (hew : Int32) (maw : Int32) (row : Int32) (fiw : Ar) (tow : Ar) (im : Nat → Option Nat) (v1 : Int32) (r0 : Int32) (hs : m_X4_shout v1 th he fi = some r0) : Met l yX4_shout (.code yX4_shout cX4_shout 2 (some .int) :: kG) rm_X4_shout (va_Pc [.ref q4, .int v1] (kW (dC, dI) cI cZ cS [(q4, .inr (4, [.ref q0, .ref q1, .ref q2, .ref q4im])), (q0, .inr (0, [.ref q0sg, .int ct])), (q0sg, .inl (cI, 60, .inl sg)), (q1, .inr (1, [.ref q3, .ref q1ne, .int si, .int ft])), (q3, .inr (3, [.ref q3fi, .ref q3to, .int th, .int he, .int ma, .int ro])), (q3fi, .inl (cI, 12, .inl fi)), (q3to, .inl (cI, 12, .inl to)), (q1ne, .inl (cI, 8, .inl ne)), (q2, .inr (2, [.ref q3w, .int ac, .int wy, .int fa, .int fp])), (q3w, .inr (3, [.ref q3fiw, .ref q3tow, .int thw, .int hew, .int maw, .int row])), (q3fiw, .inl (cI, 12, .inl fiw)), (q3tow, .inl (cI, 12, .inl tow)), (q4im, .inl (cS, 2, .inr (.inr (.inr (.inr im)))))] sz)) (kQi (dC, dI) [(q4, .inr (4, [.ref q0, .ref q1, .ref q2, .ref q4im])), (q0, .inr (0, [.ref q0sg, .int ct])), (q0sg, .inl (cI, 60, .inl sg)), (q1, .inr (1, [.ref q3, .ref q1ne, .int si, .int ft])), (q3, .inr (3, [.ref q3fi, .ref q3to, .int th, .int he, .int ma, .int ro])), (q3fi, .inl (cI, 12, .inl fi)), (q3to, .inl (cI, 12, .inl to)), (q1ne, .inl (cI, 8, .inl ne)), (q2, .inr (2, [.ref q3w, .int ac, .int wy, .int fa, .int fp])), (q3w, .inr (3, [.ref q3fiw, .ref q3tow, .int thw, .int hew, .int maw, .int row])), (q3fiw, .inl (cI, 12, .inl fiw)), (q3tow, .inl (cI, 12, .inl tow)), (q4im, .inl (cS, 2, .inr (.inr (.inr (.inr im)))))] [(q4, .inr (4, [.ref q0, .ref q1, .ref q2, .ref q4im])), (q0, .inr (0, [.ref q0sg, .int ct])), (q0sg, .inl (cI, 60, .inl sg)), (q1, .inr (1, [.ref q3, .ref q1ne, .int si, .int ft])), (q3, .inr (3, [.ref q3fi, .ref q3to, .int th, .int he, .int ma, .int ro])), (q3fi, .inl (cI, 12, .inl fi)), (q3to, .inl (cI, 12, .inl to)), (q1ne, .inl (cI, 8, .inl ne)), (q2, .inr (2, [.ref q3w, .int ac, .int wy, .int fa, .int fp])), (q3w, .inr (3, [.ref q3fiw, .ref q3tow, .int thw, .int hew, .int maw, .int row])), (q3fiw, .inl (cI, 12, .inl fiw)), (q3tow, .inl (cI, 12, .inl tow)), (q4im, .inl (cS, 2, .inr (.inr (.inr (.inr im)))))] sz r0) 0 0 (va_A [(q4, .inr (4, [.ref q0, .ref q1, .ref q2, .ref q4im])), (q0, .inr (0, [.ref q0sg, .int ct])), (q0sg, .inl (cI, 60, .inl sg)), (q1, .inr (1, [.ref q3, .ref q1ne, .int si, .int ft])), (q3, .inr (3, [.ref q3fi, .ref q3to, .int th, .int he, .int ma, .int ro])), (q3fi, .inl (cI, 12, .inl fi)), (q3to, .inl (cI, 12, .inl to)), (q1ne, .inl (cI, 8, .inl ne)), (q2, .inr (2, [.ref q3w, .int ac, .int wy, .int fa, .int fp])), (q3w, .inr (3, [.ref q3fiw, .ref q3tow, .int thw, .int hew, .int maw, .int row])), (q3fiw, .inl (cI, 12, .inl fiw)), (q3tow, .inl (cI, 12, .inl tow)), (q4im, .inl (cS, 2, .inr (.inr (.inr (.inr im)))))] sz) := by
  refine kMi (own := RX4) (ty := .int) rfl (by decide) rfl ?_ (Nat.le_of_ble_eq_true rfl)
  intro p e s m args below meth c Q A CF hK hN hA hP hD hret ls hl
  have hS : va_S A s.heap s.heap [] := va_S.rf
  obtain ⟨hx, hb, hml, hown, hts⟩ := id CF
  have hl : lv_has ls 2 [(0, .ref q4), (1, .int v1)] := hl
  unfold m_X4_shout at hs
  refine lv_iload_n hx hb dX4_shout_0 rfl (lv_at hl 1 rfl) ?_
  refine lv_iconst (v := 1) hx hb dX4_shout_1 (by decide) ?_
  refine lv_bipush (v := 12) hx hb dX4_shout_2 (by decide) ?_
  refine kpi (va_runS (As := [.int v1, .int (1 : Int32), .int (12 : Int32)]) (rest := []) ⟨hx, hb, hml, hown, hts⟩ (k_X4_isOutside l v1 (1 : Int32) (12 : Int32) _ rfl) (va_cwS 3 hts (kGood (kgS mG_188 mG_12 mG_13 mG_9)) rfl rfl rfl hd_X4_isOutside ⟨Nat.le_of_ble_eq_true rfl, Nat.le_of_ble_eq_true rfl⟩) preEq rfl rfl hl.1 rfl (lv_room (Nat.le_of_ble_eq_true rfl)) dX4_shout_4 ⟨Nat.zero_le _, Nat.zero_le _⟩) ?_
  refine lv_if_eq (tgt := 15) hx hb dX4_shout_7 (by decide) (fun c_1 => ?_) (fun c_1 => ?_)
  · replace hs := if_p c_1 hs
    refine lv_aload_n hx hb dX4_shout_15 rfl (lv_at hl 0 rfl) ?_
    refine va_get (D := (dC, dI)) (ci := 4) (v := .ref q1) (C := RX4) (T := TX4) (N := 4) hx hb hts (fun w h => kg1 (iG_4 w h)) hown hK hP 0 rfl rfl 1 (by decide) (hts _ (kg1 mG_174)) (fun _ h9 => h9) rfl dX4_shout_16 ?_
    refine va_get (D := (dC, dI)) (ci := 1) (v := .ref q3) (C := RX1) (T := TX1) (N := 4) hx hb hts (fun w h => kg1 (iG_1 w h)) hown hK hP 3 rfl rfl 0 (by decide) (hts _ (kg1 mG_185)) (fun _ h9 => h9) rfl dX4_shout_19 ?_
    refine lv_iload_n hx hb dX4_shout_22 rfl (lv_at hl 1 rfl) ?_
    obtain ⟨r_2, hc_3, hs⟩ := ob1_e hs
    refine kci (wr := [(q4, .inr (4, [.ref q0, .ref q1, .ref q2, .ref q4im])), (q0, .inr (0, [.ref q0sg, .int ct])), (q0sg, .inl (cI, 60, .inl sg)), (q1, .inr (1, [.ref q3, .ref q1ne, .int si, .int ft])), (q1ne, .inl (cI, 8, .inl ne)), (q2, .inr (2, [.ref q3w, .int ac, .int wy, .int fa, .int fp])), (q3w, .inr (3, [.ref q3fiw, .ref q3tow, .int thw, .int hew, .int maw, .int row])), (q3fiw, .inl (cI, 12, .inl fiw)), (q3tow, .inl (cI, 12, .inl tow)), (q4im, .inl (cS, 2, .inr (.inr (.inr (.inr im)))))]) (ws' := [(q4, .inr (4, [.ref q0, .ref q1, .ref q2, .ref q4im])), (q0, .inr (0, [.ref q0sg, .int ct])), (q0sg, .inl (cI, 60, .inl sg)), (q1, .inr (1, [.ref q3, .ref q1ne, .int si, .int ft])), (q3, .inr (3, [.ref q3fi, .ref q3to, .int th, .int he, .int ma, .int ro])), (q3fi, .inl (cI, 12, .inl fi)), (q3to, .inl (cI, 12, .inl to)), (q1ne, .inl (cI, 8, .inl ne)), (q2, .inr (2, [.ref q3w, .int ac, .int wy, .int fa, .int fp])), (q3w, .inr (3, [.ref q3fiw, .ref q3tow, .int thw, .int hew, .int maw, .int row])), (q3fiw, .inl (cI, 12, .inl fiw)), (q3tow, .inl (cI, 12, .inl tow)), (q4im, .inl (cS, 2, .inr (.inr (.inr (.inr im)))))]) (va_runV (As := [.int v1]) (rest := []) ⟨hx, hb, hml, hown, hts⟩ (k_X3_silentRoundsFor l dC dI cI cZ cS q3 q3fi q3to s.heap.size th he ma ro fi to v1 r_2 hc_3) (cwV 1 hts (kGood (kgV mG_239 mG_240 mG_241 mG_30 mG_149)) rfl rfl rfl ⟨rfl, hd_X3_silentRoundsFor⟩ ⟨Nat.le_of_ble_eq_true rfl, Nat.le_of_ble_eq_true rfl⟩) (kpV hK hN (hP.sub (ws' := [(q3, .inr (3, [.ref q3fi, .ref q3to, .int th, .int he, .int ma, .int ro])), (q3fi, .inl (cI, 12, .inl fi)), (q3to, .inl (cI, 12, .inl to))]) [4, 5, 6] rfl) (hD.sub (ws' := [(q3, .inr (3, [.ref q3fi, .ref q3to, .int th, .int he, .int ma, .int ro])), (q3fi, .inl (cI, 12, .inl fi)), (q3to, .inl (cI, 12, .inl to))]) [4, 5, 6] rfl rfl) rfl rfl rfl) rfl rfl hl.1 rfl (lv_room (Nat.le_of_ble_eq_true rfl)) dX4_shout_23 ⟨Nat.zero_le _, Nat.zero_le _⟩) hP hD hS hA [4, 5, 6] [0, 1, 2, 3, 7, 8, 9, 10, 11, 12] [0, 1, 2, 3, 10, 11, 12, 4, 5, 6, 7, 8, 9] rfl rfl rfl (by decide) rfl rfl (fun H locs hP hD hS => ?_)
    cases hs
    exact hret _ _ _ _ hP hD hS (vp_nar_int _) dX4_shout_26
  · replace hs := if_n c_1 hs
    refine lv_bipush (v := -2) hx hb dX4_shout_10 (by decide) ?_
    refine lv_goto (tgt := 26) hx hb dX4_shout_12 (by decide) ?_
    cases hs
    exact hret _ _ _ _ hP hD hS (vp_nar_int _) dX4_shout_26
abbrev rm_X4_horns : Room := { frames := 3, cells := 0, slots := 0, locals := 75 }
theorem hd_X4_horns : yX4_horns.cls ≠ "java/lang/invoke/MethodHandle" ∧ yX4_horns.cls ≠ "java/lang/invoke/VarHandle" ∧ (parseMethodDescriptor yX4_horns.desc).map (fun d => d.parameters.length) = some 2 := by decide +kernel
set_option maxHeartbeats 4000000 in
set_option maxRecDepth 100000 in
theorem k_X4_horns (l : Launch) (dC : Nat → ClassId) (dI : Nat → Nat → Nat) (cI cZ cS : ClassId) (q4 q0 q0sg q1 q3 q3fi q3to q1ne q2 q3w q3fiw q3tow q4im : Nat) (sz : Nat) (ct : Int32) (sg : Ar) (si : Int32) (ft : Int32) (th : Int32) (he : Int32) (ma : Int32) (ro : Int32) (fi : Ar) (to : Ar) (ne : Ar) (ac : Int32) (wy : Int32) (fa : Int32) (fp : Int32) (thw : Int32) (hew : Int32) (maw : Int32) (row : Int32) (fiw : Ar) (tow : Ar) (im : Nat → Option Nat) (v1 : Int32) (v2 : Int32) (r0 : Int32) (hs : m_X4_horns v1 v2 th fi to = some r0) : Met l yX4_horns (.code yX4_horns cX4_horns 4 (some .int) :: kG) rm_X4_horns (va_Pc [.ref q4, .int v1, .int v2] (kW (dC, dI) cI cZ cS [(q4, .inr (4, [.ref q0, .ref q1, .ref q2, .ref q4im])), (q0, .inr (0, [.ref q0sg, .int ct])), (q0sg, .inl (cI, 60, .inl sg)), (q1, .inr (1, [.ref q3, .ref q1ne, .int si, .int ft])), (q3, .inr (3, [.ref q3fi, .ref q3to, .int th, .int he, .int ma, .int ro])), (q3fi, .inl (cI, 12, .inl fi)), (q3to, .inl (cI, 12, .inl to)), (q1ne, .inl (cI, 8, .inl ne)), (q2, .inr (2, [.ref q3w, .int ac, .int wy, .int fa, .int fp])), (q3w, .inr (3, [.ref q3fiw, .ref q3tow, .int thw, .int hew, .int maw, .int row])), (q3fiw, .inl (cI, 12, .inl fiw)), (q3tow, .inl (cI, 12, .inl tow)), (q4im, .inl (cS, 2, .inr (.inr (.inr (.inr im)))))] sz)) (kQi (dC, dI) [(q4, .inr (4, [.ref q0, .ref q1, .ref q2, .ref q4im])), (q0, .inr (0, [.ref q0sg, .int ct])), (q0sg, .inl (cI, 60, .inl sg)), (q1, .inr (1, [.ref q3, .ref q1ne, .int si, .int ft])), (q3, .inr (3, [.ref q3fi, .ref q3to, .int th, .int he, .int ma, .int ro])), (q3fi, .inl (cI, 12, .inl fi)), (q3to, .inl (cI, 12, .inl to)), (q1ne, .inl (cI, 8, .inl ne)), (q2, .inr (2, [.ref q3w, .int ac, .int wy, .int fa, .int fp])), (q3w, .inr (3, [.ref q3fiw, .ref q3tow, .int thw, .int hew, .int maw, .int row])), (q3fiw, .inl (cI, 12, .inl fiw)), (q3tow, .inl (cI, 12, .inl tow)), (q4im, .inl (cS, 2, .inr (.inr (.inr (.inr im)))))] [(q4, .inr (4, [.ref q0, .ref q1, .ref q2, .ref q4im])), (q0, .inr (0, [.ref q0sg, .int ct])), (q0sg, .inl (cI, 60, .inl sg)), (q1, .inr (1, [.ref q3, .ref q1ne, .int si, .int ft])), (q3, .inr (3, [.ref q3fi, .ref q3to, .int th, .int he, .int ma, .int ro])), (q3fi, .inl (cI, 12, .inl fi)), (q3to, .inl (cI, 12, .inl to)), (q1ne, .inl (cI, 8, .inl ne)), (q2, .inr (2, [.ref q3w, .int ac, .int wy, .int fa, .int fp])), (q3w, .inr (3, [.ref q3fiw, .ref q3tow, .int thw, .int hew, .int maw, .int row])), (q3fiw, .inl (cI, 12, .inl fiw)), (q3tow, .inl (cI, 12, .inl tow)), (q4im, .inl (cS, 2, .inr (.inr (.inr (.inr im)))))] sz r0) 0 0 (va_A [(q4, .inr (4, [.ref q0, .ref q1, .ref q2, .ref q4im])), (q0, .inr (0, [.ref q0sg, .int ct])), (q0sg, .inl (cI, 60, .inl sg)), (q1, .inr (1, [.ref q3, .ref q1ne, .int si, .int ft])), (q3, .inr (3, [.ref q3fi, .ref q3to, .int th, .int he, .int ma, .int ro])), (q3fi, .inl (cI, 12, .inl fi)), (q3to, .inl (cI, 12, .inl to)), (q1ne, .inl (cI, 8, .inl ne)), (q2, .inr (2, [.ref q3w, .int ac, .int wy, .int fa, .int fp])), (q3w, .inr (3, [.ref q3fiw, .ref q3tow, .int thw, .int hew, .int maw, .int row])), (q3fiw, .inl (cI, 12, .inl fiw)), (q3tow, .inl (cI, 12, .inl tow)), (q4im, .inl (cS, 2, .inr (.inr (.inr (.inr im)))))] sz) := by
  refine kMi (own := RX4) (ty := .int) rfl (by decide) rfl ?_ (Nat.le_of_ble_eq_true rfl)
  intro p e s m args below meth c Q A CF hK hN hA hP hD hret ls hl
  have hS : va_S A s.heap s.heap [] := va_S.rf
  obtain ⟨hx, hb, hml, hown, hts⟩ := id CF
  have hl : lv_has ls 4 [(0, .ref q4), (1, .int v1), (2, .int v2)] := hl
  unfold m_X4_horns at hs
  refine lv_iload_n hx hb dX4_horns_0 rfl (lv_at hl 1 rfl) ?_
  refine lv_iconst (v := 0) hx hb dX4_horns_1 (by decide) ?_
  refine lv_iconst (v := 3) hx hb dX4_horns_2 (by decide) ?_
  refine kpi (va_runS (As := [.int v1, .int (0 : Int32), .int (3 : Int32)]) (rest := []) ⟨hx, hb, hml, hown, hts⟩ (k_X4_isOutside l v1 (0 : Int32) (3 : Int32) _ rfl) (va_cwS 3 hts (kGood (kgS mG_188 mG_12 mG_13 mG_9)) rfl rfl rfl hd_X4_isOutside ⟨Nat.le_of_ble_eq_true rfl, Nat.le_of_ble_eq_true rfl⟩) preEq rfl rfl hl.1 rfl (lv_room (Nat.le_of_ble_eq_true rfl)) dX4_horns_3 ⟨Nat.zero_le _, Nat.zero_le _⟩) ?_
  refine lv_if_ne (tgt := 18) hx hb dX4_horns_6 (by decide) (fun c_1 => ?_) (fun c_1 => ?_)
  · replace hs := if_n c_1 hs
    refine lv_bipush (v := -2) hx hb dX4_horns_18 (by decide) ?_
    cases hs
    exact hret _ _ _ _ hP hD hS (vp_nar_int _) dX4_horns_20
  · replace hs := if_p c_1 hs
    refine lv_iload_n hx hb dX4_horns_9 rfl (lv_at hl 2 rfl) ?_
    refine lv_iconst (v := 0) hx hb dX4_horns_10 (by decide) ?_
    refine lv_iconst (v := 1) hx hb dX4_horns_11 (by decide) ?_
    refine kpi (va_runS (As := [.int v2, .int (0 : Int32), .int (1 : Int32)]) (rest := []) ⟨hx, hb, hml, hown, hts⟩ (k_X4_isOutside l v2 (0 : Int32) (1 : Int32) _ rfl) (va_cwS 3 hts (kGood (kgS mG_188 mG_12 mG_13 mG_9)) rfl rfl rfl hd_X4_isOutside ⟨Nat.le_of_ble_eq_true rfl, Nat.le_of_ble_eq_true rfl⟩) preEq rfl rfl hl.1 rfl (lv_room (Nat.le_of_ble_eq_true rfl)) dX4_horns_12 ⟨Nat.zero_le _, Nat.zero_le _⟩) ?_
    refine lv_if_eq (tgt := 21) hx hb dX4_horns_15 (by decide) (fun c_2 => ?_) (fun c_2 => ?_)
    · replace hs := if_p c_2 hs
      refine lv_aload_n hx hb dX4_horns_21 rfl (lv_at hl 0 rfl) ?_
      refine va_get (D := (dC, dI)) (ci := 4) (v := .ref q1) (C := RX4) (T := TX4) (N := 4) hx hb hts (fun w h => kg1 (iG_4 w h)) hown hK hP 0 rfl rfl 1 (by decide) (hts _ (kg1 mG_174)) (fun _ h9 => h9) rfl dX4_horns_22 ?_
      refine va_get (D := (dC, dI)) (ci := 1) (v := .ref q3) (C := RX1) (T := TX1) (N := 4) hx hb hts (fun w h => kg1 (iG_1 w h)) hown hK hP 3 rfl rfl 0 (by decide) (hts _ (kg1 mG_185)) (fun _ h9 => h9) rfl dX4_horns_25 ?_
      refine lv_iload_n hx hb dX4_horns_28 rfl (lv_at hl 1 rfl) ?_
      obtain ⟨r_3, hc_4, hs⟩ := ob1_e hs
      refine kci (wr := [(q4, .inr (4, [.ref q0, .ref q1, .ref q2, .ref q4im])), (q0, .inr (0, [.ref q0sg, .int ct])), (q0sg, .inl (cI, 60, .inl sg)), (q1, .inr (1, [.ref q3, .ref q1ne, .int si, .int ft])), (q1ne, .inl (cI, 8, .inl ne)), (q2, .inr (2, [.ref q3w, .int ac, .int wy, .int fa, .int fp])), (q3w, .inr (3, [.ref q3fiw, .ref q3tow, .int thw, .int hew, .int maw, .int row])), (q3fiw, .inl (cI, 12, .inl fiw)), (q3tow, .inl (cI, 12, .inl tow)), (q4im, .inl (cS, 2, .inr (.inr (.inr (.inr im)))))]) (ws' := [(q4, .inr (4, [.ref q0, .ref q1, .ref q2, .ref q4im])), (q0, .inr (0, [.ref q0sg, .int ct])), (q0sg, .inl (cI, 60, .inl sg)), (q1, .inr (1, [.ref q3, .ref q1ne, .int si, .int ft])), (q3, .inr (3, [.ref q3fi, .ref q3to, .int th, .int he, .int ma, .int ro])), (q3fi, .inl (cI, 12, .inl fi)), (q3to, .inl (cI, 12, .inl to)), (q1ne, .inl (cI, 8, .inl ne)), (q2, .inr (2, [.ref q3w, .int ac, .int wy, .int fa, .int fp])), (q3w, .inr (3, [.ref q3fiw, .ref q3tow, .int thw, .int hew, .int maw, .int row])), (q3fiw, .inl (cI, 12, .inl fiw)), (q3tow, .inl (cI, 12, .inl tow)), (q4im, .inl (cS, 2, .inr (.inr (.inr (.inr im)))))]) (va_runV (As := [.int v1]) (rest := []) ⟨hx, hb, hml, hown, hts⟩ (k_X3_bestHorns l dC dI cI cZ cS q3 q3fi q3to s.heap.size th he ma ro fi to v1 r_3 hc_4) (cwV 1 hts (kGood (kgV mG_243 mG_244 mG_245 mG_30 mG_156)) rfl rfl rfl ⟨rfl, hd_X3_bestHorns⟩ ⟨Nat.le_of_ble_eq_true rfl, Nat.le_of_ble_eq_true rfl⟩) (kpV hK hN (hP.sub (ws' := [(q3, .inr (3, [.ref q3fi, .ref q3to, .int th, .int he, .int ma, .int ro])), (q3fi, .inl (cI, 12, .inl fi)), (q3to, .inl (cI, 12, .inl to))]) [4, 5, 6] rfl) (hD.sub (ws' := [(q3, .inr (3, [.ref q3fi, .ref q3to, .int th, .int he, .int ma, .int ro])), (q3fi, .inl (cI, 12, .inl fi)), (q3to, .inl (cI, 12, .inl to))]) [4, 5, 6] rfl rfl) rfl rfl rfl) rfl rfl hl.1 rfl (lv_room (Nat.le_of_ble_eq_true rfl)) dX4_horns_29 ⟨Nat.zero_le _, Nat.zero_le _⟩) hP hD hS hA [4, 5, 6] [0, 1, 2, 3, 7, 8, 9, 10, 11, 12] [0, 1, 2, 3, 10, 11, 12, 4, 5, 6, 7, 8, 9] rfl rfl rfl (by decide) rfl rfl (fun H locs hP hD hS => ?_)
      refine lv_istore_n (lv' := [(3, .int r_3), (0, .ref q4), (1, .int v1), (2, .int v2)]) hx hb dX4_horns_32 rfl hl (by decide) rfl (fun ls hl => ?_)
      refine lv_iload_n hx hb dX4_horns_33 rfl (lv_at hl 3 rfl) ?_
      refine lv_if_ne (tgt := 52) hx hb dX4_horns_34 (by decide) (fun c_5 => ?_) (fun c_5 => ?_)
      · replace hs := if_n c_5 hs
        refine lv_iload_n hx hb dX4_horns_52 rfl (lv_at hl 0 rfl) ?_
        cases hs
        exact hret _ _ _ _ hP hD hS (vp_nar_int _) dX4_horns_53
      · replace hs := if_p c_5 hs
        refine lv_aload_n hx hb dX4_horns_37 rfl (lv_at hl 1 rfl) ?_
        refine va_get (D := (dC, dI)) (ci := 4) (v := .ref q1) (C := RX4) (T := TX4) (N := 4) hx hb hts (fun w h => kg1 (iG_4 w h)) hown hK hP 0 rfl rfl 1 (by decide) (hts _ (kg1 mG_174)) (fun _ h9 => h9) rfl dX4_horns_38 ?_
        refine va_get (D := (dC, dI)) (ci := 1) (v := .ref q3) (C := RX1) (T := TX1) (N := 4) hx hb hts (fun w h => kg1 (iG_1 w h)) hown hK hP 3 rfl rfl 0 (by decide) (hts _ (kg1 mG_185)) (fun _ h9 => h9) rfl dX4_horns_41 ?_
        refine lv_iload_n hx hb dX4_horns_44 rfl (lv_at hl 0 rfl) ?_
        refine lv_iload_n hx hb dX4_horns_45 rfl (lv_at hl 2 rfl) ?_
        obtain ⟨r_6, hc_7, hs⟩ := ob1_e hs
        refine kci (wr := [(q4, .inr (4, [.ref q0, .ref q1, .ref q2, .ref q4im])), (q0, .inr (0, [.ref q0sg, .int ct])), (q0sg, .inl (cI, 60, .inl sg)), (q1, .inr (1, [.ref q3, .ref q1ne, .int si, .int ft])), (q1ne, .inl (cI, 8, .inl ne)), (q2, .inr (2, [.ref q3w, .int ac, .int wy, .int fa, .int fp])), (q3w, .inr (3, [.ref q3fiw, .ref q3tow, .int thw, .int hew, .int maw, .int row])), (q3fiw, .inl (cI, 12, .inl fiw)), (q3tow, .inl (cI, 12, .inl tow)), (q4im, .inl (cS, 2, .inr (.inr (.inr (.inr im)))))]) (ws' := [(q4, .inr (4, [.ref q0, .ref q1, .ref q2, .ref q4im])), (q0, .inr (0, [.ref q0sg, .int ct])), (q0sg, .inl (cI, 60, .inl sg)), (q1, .inr (1, [.ref q3, .ref q1ne, .int si, .int ft])), (q3, .inr (3, [.ref q3fi, .ref q3to, .int th, .int he, .int ma, .int ro])), (q3fi, .inl (cI, 12, .inl fi)), (q3to, .inl (cI, 12, .inl to)), (q1ne, .inl (cI, 8, .inl ne)), (q2, .inr (2, [.ref q3w, .int ac, .int wy, .int fa, .int fp])), (q3w, .inr (3, [.ref q3fiw, .ref q3tow, .int thw, .int hew, .int maw, .int row])), (q3fiw, .inl (cI, 12, .inl fiw)), (q3tow, .inl (cI, 12, .inl tow)), (q4im, .inl (cS, 2, .inr (.inr (.inr (.inr im)))))]) (va_runV (As := [.int r_3, .int v1]) (rest := []) ⟨hx, hb, hml, hown, hts⟩ (k_X3_downByHorns l dC dI cI cZ cS q3 q3fi q3to H.size th he ma ro fi to r_3 v1 r_6 hc_7) (cwV 2 hts (kGood (kgV mG_246 mG_158 mG_159 mG_30 mG_153)) rfl rfl rfl ⟨rfl, hd_X3_downByHorns⟩ ⟨Nat.le_of_ble_eq_true rfl, Nat.le_of_ble_eq_true rfl⟩) (kpV hK hN (hP.sub (ws' := [(q3, .inr (3, [.ref q3fi, .ref q3to, .int th, .int he, .int ma, .int ro])), (q3fi, .inl (cI, 12, .inl fi)), (q3to, .inl (cI, 12, .inl to))]) [4, 5, 6] rfl) (hD.sub (ws' := [(q3, .inr (3, [.ref q3fi, .ref q3to, .int th, .int he, .int ma, .int ro])), (q3fi, .inl (cI, 12, .inl fi)), (q3to, .inl (cI, 12, .inl to))]) [4, 5, 6] rfl rfl) rfl rfl rfl) rfl rfl hl.1 rfl (lv_room (Nat.le_of_ble_eq_true rfl)) dX4_horns_46 ⟨Nat.zero_le _, Nat.zero_le _⟩) hP hD hS hA [4, 5, 6] [0, 1, 2, 3, 7, 8, 9, 10, 11, 12] [0, 1, 2, 3, 10, 11, 12, 4, 5, 6, 7, 8, 9] rfl rfl rfl (by decide) rfl rfl (fun H locs hP hD hS => ?_)
        refine lv_goto (tgt := 53) hx hb dX4_horns_49 (by decide) ?_
        cases hs
        exact hret _ _ _ _ hP hD hS (vp_nar_int _) dX4_horns_53
    · replace hs := if_n c_2 hs
      refine lv_bipush (v := -2) hx hb dX4_horns_18 (by decide) ?_
      cases hs
      exact hret _ _ _ _ hP hD hS (vp_nar_int _) dX4_horns_20
abbrev rm_X4_weakest : Room := { frames := 2, cells := 0, slots := 0, locals := 49 }
theorem hd_X4_weakest : yX4_weakest.cls ≠ "java/lang/invoke/MethodHandle" ∧ yX4_weakest.cls ≠ "java/lang/invoke/VarHandle" ∧ (parseMethodDescriptor yX4_weakest.desc).map (fun d => d.parameters.length) = some 2 := by decide +kernel
set_option maxHeartbeats 4000000 in
set_option maxRecDepth 100000 in
theorem k_X4_weakest (l : Launch) (dC : Nat → ClassId) (dI : Nat → Nat → Nat) (cI cZ cS : ClassId) (q4 q0 q0sg q1 q3 q3fi q3to q1ne q2 q3w q3fiw q3tow q4im : Nat) (sz : Nat) (ct : Int32) (sg : Ar) (si : Int32) (ft : Int32) (th : Int32) (he : Int32) (ma : Int32) (ro : Int32) (fi : Ar) (to : Ar) (ne : Ar) (ac : Int32) (wy : Int32) (fa : Int32) (fp : Int32) (thw : Int32) (hew : Int32) (maw : Int32) (row : Int32) (fiw : Ar) (tow : Ar) (im : Nat → Option Nat) (v1 : Int32) (v2 : Int32) (r0 : Int32) (hs : m_X4_weakest v1 v2 fi = some r0) : Met l yX4_weakest (.code yX4_weakest cX4_weakest 4 (some .int) :: kG) rm_X4_weakest (va_Pc [.ref q4, .int v1, .int v2] (kW (dC, dI) cI cZ cS [(q4, .inr (4, [.ref q0, .ref q1, .ref q2, .ref q4im])), (q0, .inr (0, [.ref q0sg, .int ct])), (q0sg, .inl (cI, 60, .inl sg)), (q1, .inr (1, [.ref q3, .ref q1ne, .int si, .int ft])), (q3, .inr (3, [.ref q3fi, .ref q3to, .int th, .int he, .int ma, .int ro])), (q3fi, .inl (cI, 12, .inl fi)), (q3to, .inl (cI, 12, .inl to)), (q1ne, .inl (cI, 8, .inl ne)), (q2, .inr (2, [.ref q3w, .int ac, .int wy, .int fa, .int fp])), (q3w, .inr (3, [.ref q3fiw, .ref q3tow, .int thw, .int hew, .int maw, .int row])), (q3fiw, .inl (cI, 12, .inl fiw)), (q3tow, .inl (cI, 12, .inl tow)), (q4im, .inl (cS, 2, .inr (.inr (.inr (.inr im)))))] sz)) (kQi (dC, dI) [(q4, .inr (4, [.ref q0, .ref q1, .ref q2, .ref q4im])), (q0, .inr (0, [.ref q0sg, .int ct])), (q0sg, .inl (cI, 60, .inl sg)), (q1, .inr (1, [.ref q3, .ref q1ne, .int si, .int ft])), (q3, .inr (3, [.ref q3fi, .ref q3to, .int th, .int he, .int ma, .int ro])), (q3fi, .inl (cI, 12, .inl fi)), (q3to, .inl (cI, 12, .inl to)), (q1ne, .inl (cI, 8, .inl ne)), (q2, .inr (2, [.ref q3w, .int ac, .int wy, .int fa, .int fp])), (q3w, .inr (3, [.ref q3fiw, .ref q3tow, .int thw, .int hew, .int maw, .int row])), (q3fiw, .inl (cI, 12, .inl fiw)), (q3tow, .inl (cI, 12, .inl tow)), (q4im, .inl (cS, 2, .inr (.inr (.inr (.inr im)))))] [(q4, .inr (4, [.ref q0, .ref q1, .ref q2, .ref q4im])), (q0, .inr (0, [.ref q0sg, .int ct])), (q0sg, .inl (cI, 60, .inl sg)), (q1, .inr (1, [.ref q3, .ref q1ne, .int si, .int ft])), (q3, .inr (3, [.ref q3fi, .ref q3to, .int th, .int he, .int ma, .int ro])), (q3fi, .inl (cI, 12, .inl fi)), (q3to, .inl (cI, 12, .inl to)), (q1ne, .inl (cI, 8, .inl ne)), (q2, .inr (2, [.ref q3w, .int ac, .int wy, .int fa, .int fp])), (q3w, .inr (3, [.ref q3fiw, .ref q3tow, .int thw, .int hew, .int maw, .int row])), (q3fiw, .inl (cI, 12, .inl fiw)), (q3tow, .inl (cI, 12, .inl tow)), (q4im, .inl (cS, 2, .inr (.inr (.inr (.inr im)))))] sz r0) 0 0 (va_A [(q4, .inr (4, [.ref q0, .ref q1, .ref q2, .ref q4im])), (q0, .inr (0, [.ref q0sg, .int ct])), (q0sg, .inl (cI, 60, .inl sg)), (q1, .inr (1, [.ref q3, .ref q1ne, .int si, .int ft])), (q3, .inr (3, [.ref q3fi, .ref q3to, .int th, .int he, .int ma, .int ro])), (q3fi, .inl (cI, 12, .inl fi)), (q3to, .inl (cI, 12, .inl to)), (q1ne, .inl (cI, 8, .inl ne)), (q2, .inr (2, [.ref q3w, .int ac, .int wy, .int fa, .int fp])), (q3w, .inr (3, [.ref q3fiw, .ref q3tow, .int thw, .int hew, .int maw, .int row])), (q3fiw, .inl (cI, 12, .inl fiw)), (q3tow, .inl (cI, 12, .inl tow)), (q4im, .inl (cS, 2, .inr (.inr (.inr (.inr im)))))] sz) := by
  refine kMi (own := RX4) (ty := .int) rfl (by decide) rfl ?_ (Nat.le_of_ble_eq_true rfl)
  intro p e s m args below meth c Q A CF hK hN hA hP hD hret ls hl
  have hS : va_S A s.heap s.heap [] := va_S.rf
  obtain ⟨hx, hb, hml, hown, hts⟩ := id CF
  have hl : lv_has ls 4 [(0, .ref q4), (1, .int v1), (2, .int v2)] := hl
  unfold m_X4_weakest at hs
  refine lv_iload_n hx hb dX4_weakest_0 rfl (lv_at hl 1 rfl) ?_
  refine lv_iconst (v := 1) hx hb dX4_weakest_1 (by decide) ?_
  refine lv_bipush (v := 12) hx hb dX4_weakest_2 (by decide) ?_
  refine kpi (va_runS (As := [.int v1, .int (1 : Int32), .int (12 : Int32)]) (rest := []) ⟨hx, hb, hml, hown, hts⟩ (k_X4_isOutside l v1 (1 : Int32) (12 : Int32) _ rfl) (va_cwS 3 hts (kGood (kgS mG_188 mG_12 mG_13 mG_9)) rfl rfl rfl hd_X4_isOutside ⟨Nat.le_of_ble_eq_true rfl, Nat.le_of_ble_eq_true rfl⟩) preEq rfl rfl hl.1 rfl (lv_room (Nat.le_of_ble_eq_true rfl)) dX4_weakest_4 ⟨Nat.zero_le _, Nat.zero_le _⟩) ?_
  refine lv_if_ne (tgt := 19) hx hb dX4_weakest_7 (by decide) (fun c_1 => ?_) (fun c_1 => ?_)
  · replace hs := if_n c_1 hs
    refine lv_bipush (v := -2) hx hb dX4_weakest_19 (by decide) ?_
    cases hs
    exact hret _ _ _ _ hP hD hS (vp_nar_int _) dX4_weakest_21
  · replace hs := if_p c_1 hs
    refine lv_iload_n hx hb dX4_weakest_10 rfl (lv_at hl 2 rfl) ?_
    refine lv_iconst (v := 0) hx hb dX4_weakest_11 (by decide) ?_
    refine lv_iconst (v := 1) hx hb dX4_weakest_12 (by decide) ?_
    refine kpi (va_runS (As := [.int v2, .int (0 : Int32), .int (1 : Int32)]) (rest := []) ⟨hx, hb, hml, hown, hts⟩ (k_X4_isOutside l v2 (0 : Int32) (1 : Int32) _ rfl) (va_cwS 3 hts (kGood (kgS mG_188 mG_12 mG_13 mG_9)) rfl rfl rfl hd_X4_isOutside ⟨Nat.le_of_ble_eq_true rfl, Nat.le_of_ble_eq_true rfl⟩) preEq rfl rfl hl.1 rfl (lv_room (Nat.le_of_ble_eq_true rfl)) dX4_weakest_13 ⟨Nat.zero_le _, Nat.zero_le _⟩) ?_
    refine lv_if_eq (tgt := 22) hx hb dX4_weakest_16 (by decide) (fun c_2 => ?_) (fun c_2 => ?_)
    · replace hs := if_p c_2 hs
      refine lv_aload_n hx hb dX4_weakest_22 rfl (lv_at hl 0 rfl) ?_
      refine va_get (D := (dC, dI)) (ci := 4) (v := .ref q1) (C := RX4) (T := TX4) (N := 4) hx hb hts (fun w h => kg1 (iG_4 w h)) hown hK hP 0 rfl rfl 1 (by decide) (hts _ (kg1 mG_174)) (fun _ h9 => h9) rfl dX4_weakest_23 ?_
      refine va_get (D := (dC, dI)) (ci := 1) (v := .ref q3) (C := RX1) (T := TX1) (N := 4) hx hb hts (fun w h => kg1 (iG_1 w h)) hown hK hP 3 rfl rfl 0 (by decide) (hts _ (kg1 mG_185)) (fun _ h9 => h9) rfl dX4_weakest_26 ?_
      refine lv_iload_n hx hb dX4_weakest_29 rfl (lv_at hl 1 rfl) ?_
      obtain ⟨r_3, hc_4, hs⟩ := ob1_e hs
      refine kci (wr := [(q4, .inr (4, [.ref q0, .ref q1, .ref q2, .ref q4im])), (q0, .inr (0, [.ref q0sg, .int ct])), (q0sg, .inl (cI, 60, .inl sg)), (q1, .inr (1, [.ref q3, .ref q1ne, .int si, .int ft])), (q1ne, .inl (cI, 8, .inl ne)), (q2, .inr (2, [.ref q3w, .int ac, .int wy, .int fa, .int fp])), (q3w, .inr (3, [.ref q3fiw, .ref q3tow, .int thw, .int hew, .int maw, .int row])), (q3fiw, .inl (cI, 12, .inl fiw)), (q3tow, .inl (cI, 12, .inl tow)), (q4im, .inl (cS, 2, .inr (.inr (.inr (.inr im)))))]) (ws' := [(q4, .inr (4, [.ref q0, .ref q1, .ref q2, .ref q4im])), (q0, .inr (0, [.ref q0sg, .int ct])), (q0sg, .inl (cI, 60, .inl sg)), (q1, .inr (1, [.ref q3, .ref q1ne, .int si, .int ft])), (q3, .inr (3, [.ref q3fi, .ref q3to, .int th, .int he, .int ma, .int ro])), (q3fi, .inl (cI, 12, .inl fi)), (q3to, .inl (cI, 12, .inl to)), (q1ne, .inl (cI, 8, .inl ne)), (q2, .inr (2, [.ref q3w, .int ac, .int wy, .int fa, .int fp])), (q3w, .inr (3, [.ref q3fiw, .ref q3tow, .int thw, .int hew, .int maw, .int row])), (q3fiw, .inl (cI, 12, .inl fiw)), (q3tow, .inl (cI, 12, .inl tow)), (q4im, .inl (cS, 2, .inr (.inr (.inr (.inr im)))))]) (va_runV (As := [.int v1]) (rest := []) ⟨hx, hb, hml, hown, hts⟩ (k_X3_weakestStretch l dC dI cI cZ cS q3 q3fi q3to s.heap.size th he ma ro fi to v1 r_3 hc_4) (cwV 1 hts (kGood (kgV mG_249 mG_250 mG_251 mG_30 mG_164)) rfl rfl rfl ⟨rfl, hd_X3_weakestStretch⟩ ⟨Nat.le_of_ble_eq_true rfl, Nat.le_of_ble_eq_true rfl⟩) (kpV hK hN (hP.sub (ws' := [(q3, .inr (3, [.ref q3fi, .ref q3to, .int th, .int he, .int ma, .int ro])), (q3fi, .inl (cI, 12, .inl fi)), (q3to, .inl (cI, 12, .inl to))]) [4, 5, 6] rfl) (hD.sub (ws' := [(q3, .inr (3, [.ref q3fi, .ref q3to, .int th, .int he, .int ma, .int ro])), (q3fi, .inl (cI, 12, .inl fi)), (q3to, .inl (cI, 12, .inl to))]) [4, 5, 6] rfl rfl) rfl rfl rfl) rfl rfl hl.1 rfl (lv_room (Nat.le_of_ble_eq_true rfl)) dX4_weakest_30 ⟨Nat.zero_le _, Nat.zero_le _⟩) hP hD hS hA [4, 5, 6] [0, 1, 2, 3, 7, 8, 9, 10, 11, 12] [0, 1, 2, 3, 10, 11, 12, 4, 5, 6, 7, 8, 9] rfl rfl rfl (by decide) rfl rfl (fun H locs hP hD hS => ?_)
      refine lv_istore_n (lv' := [(3, .int r_3), (0, .ref q4), (1, .int v1), (2, .int v2)]) hx hb dX4_weakest_33 rfl hl (by decide) rfl (fun ls hl => ?_)
      refine lv_iload_n hx hb dX4_weakest_34 rfl (lv_at hl 3 rfl) ?_
      refine lv_if_ne (tgt := 42) hx hb dX4_weakest_35 (by decide) (fun c_5 => ?_) (fun c_5 => ?_)
      · replace hs := if_n c_5 hs
        refine lv_aload_n hx hb dX4_weakest_42 rfl (lv_at hl 1 rfl) ?_
        refine va_get (D := (dC, dI)) (ci := 4) (v := .ref q1) (C := RX4) (T := TX4) (N := 4) hx hb hts (fun w h => kg1 (iG_4 w h)) hown hK hP 0 rfl rfl 1 (by decide) (hts _ (kg1 mG_174)) (fun _ h9 => h9) rfl dX4_weakest_43 ?_
        refine va_get (D := (dC, dI)) (ci := 1) (v := .ref q3) (C := RX1) (T := TX1) (N := 4) hx hb hts (fun w h => kg1 (iG_1 w h)) hown hK hP 3 rfl rfl 0 (by decide) (hts _ (kg1 mG_185)) (fun _ h9 => h9) rfl dX4_weakest_46 ?_
        refine lv_iload_n hx hb dX4_weakest_49 rfl (lv_at hl 0 rfl) ?_
        refine lv_iload_n hx hb dX4_weakest_50 rfl (lv_at hl 2 rfl) ?_
        obtain ⟨r_6, hc_7, hs⟩ := ob1_e hs
        refine kci (wr := [(q4, .inr (4, [.ref q0, .ref q1, .ref q2, .ref q4im])), (q0, .inr (0, [.ref q0sg, .int ct])), (q0sg, .inl (cI, 60, .inl sg)), (q1, .inr (1, [.ref q3, .ref q1ne, .int si, .int ft])), (q1ne, .inl (cI, 8, .inl ne)), (q2, .inr (2, [.ref q3w, .int ac, .int wy, .int fa, .int fp])), (q3w, .inr (3, [.ref q3fiw, .ref q3tow, .int thw, .int hew, .int maw, .int row])), (q3fiw, .inl (cI, 12, .inl fiw)), (q3tow, .inl (cI, 12, .inl tow)), (q4im, .inl (cS, 2, .inr (.inr (.inr (.inr im)))))]) (ws' := [(q4, .inr (4, [.ref q0, .ref q1, .ref q2, .ref q4im])), (q0, .inr (0, [.ref q0sg, .int ct])), (q0sg, .inl (cI, 60, .inl sg)), (q1, .inr (1, [.ref q3, .ref q1ne, .int si, .int ft])), (q3, .inr (3, [.ref q3fi, .ref q3to, .int th, .int he, .int ma, .int ro])), (q3fi, .inl (cI, 12, .inl fi)), (q3to, .inl (cI, 12, .inl to)), (q1ne, .inl (cI, 8, .inl ne)), (q2, .inr (2, [.ref q3w, .int ac, .int wy, .int fa, .int fp])), (q3w, .inr (3, [.ref q3fiw, .ref q3tow, .int thw, .int hew, .int maw, .int row])), (q3fiw, .inl (cI, 12, .inl fiw)), (q3tow, .inl (cI, 12, .inl tow)), (q4im, .inl (cS, 2, .inr (.inr (.inr (.inr im)))))]) (va_runV (As := [.int r_3, .int v1]) (rest := []) ⟨hx, hb, hml, hown, hts⟩ (k_X3_firmTogether l dC dI cI cZ cS q3 q3fi q3to H.size th he ma ro fi to r_3 v1 r_6 hc_7) (cwV 2 hts (kGood (kgV mG_252 mG_166 mG_167 mG_30 mG_163)) rfl rfl rfl ⟨rfl, hd_X3_firmTogether⟩ ⟨Nat.le_of_ble_eq_true rfl, Nat.le_of_ble_eq_true rfl⟩) (kpV hK hN (hP.sub (ws' := [(q3, .inr (3, [.ref q3fi, .ref q3to, .int th, .int he, .int ma, .int ro])), (q3fi, .inl (cI, 12, .inl fi)), (q3to, .inl (cI, 12, .inl to))]) [4, 5, 6] rfl) (hD.sub (ws' := [(q3, .inr (3, [.ref q3fi, .ref q3to, .int th, .int he, .int ma, .int ro])), (q3fi, .inl (cI, 12, .inl fi)), (q3to, .inl (cI, 12, .inl to))]) [4, 5, 6] rfl rfl) rfl rfl rfl) rfl rfl hl.1 rfl (lv_room (Nat.le_of_ble_eq_true rfl)) dX4_weakest_51 ⟨Nat.zero_le _, Nat.zero_le _⟩) hP hD hS hA [4, 5, 6] [0, 1, 2, 3, 7, 8, 9, 10, 11, 12] [0, 1, 2, 3, 10, 11, 12, 4, 5, 6, 7, 8, 9] rfl rfl rfl (by decide) rfl rfl (fun H locs hP hD hS => ?_)
        cases hs
        exact hret _ _ _ _ hP hD hS (vp_nar_int _) dX4_weakest_54
      · replace hs := if_p c_5 hs
        refine lv_iload_n hx hb dX4_weakest_38 rfl (lv_at hl 0 rfl) ?_
        refine lv_goto (tgt := 54) hx hb dX4_weakest_39 (by decide) ?_
        cases hs
        exact hret _ _ _ _ hP hD hS (vp_nar_int _) dX4_weakest_54
    · replace hs := if_n c_2 hs
      refine lv_bipush (v := -2) hx hb dX4_weakest_19 (by decide) ?_
      cases hs
      exact hret _ _ _ _ hP hD hS (vp_nar_int _) dX4_weakest_21
abbrev rm_X4_watch : Room := { frames := 3, cells := 0, slots := 0, locals := 69 }
theorem hd_X4_watch : yX4_watch.cls ≠ "java/lang/invoke/MethodHandle" ∧ yX4_watch.cls ≠ "java/lang/invoke/VarHandle" ∧ (parseMethodDescriptor yX4_watch.desc).map (fun d => d.parameters.length) = some 3 := by decide +kernel
set_option maxHeartbeats 4000000 in
set_option maxRecDepth 100000 in
theorem k_X4_watch (l : Launch) (dC : Nat → ClassId) (dI : Nat → Nat → Nat) (cI cZ cS : ClassId) (q4 q0 q0sg q1 q3 q3fi q3to q1ne q2 q3w q3fiw q3tow q4im : Nat) (sz : Nat) (ct : Int32) (sg : Ar) (si : Int32) (ft : Int32) (th : Int32) (he : Int32) (ma : Int32) (ro : Int32) (fi : Ar) (to : Ar) (ne : Ar) (ac : Int32) (wy : Int32) (fa : Int32) (fp : Int32) (thw : Int32) (hew : Int32) (maw : Int32) (row : Int32) (fiw : Ar) (tow : Ar) (im : Nat → Option Nat) (v1 : Int32) (v2 : Int32) (v3 : Int32) (r0 : Int32) (hs : m_X4_watch v1 v2 v3 = some r0) : Met l yX4_watch (.code yX4_watch cX4_watch 5 (some .int) :: kG) rm_X4_watch (va_Pc [.ref q4, .int v1, .int v2, .int v3] (kW (dC, dI) cI cZ cS [(q4, .inr (4, [.ref q0, .ref q1, .ref q2, .ref q4im])), (q0, .inr (0, [.ref q0sg, .int ct])), (q0sg, .inl (cI, 60, .inl sg)), (q1, .inr (1, [.ref q3, .ref q1ne, .int si, .int ft])), (q3, .inr (3, [.ref q3fi, .ref q3to, .int th, .int he, .int ma, .int ro])), (q3fi, .inl (cI, 12, .inl fi)), (q3to, .inl (cI, 12, .inl to)), (q1ne, .inl (cI, 8, .inl ne)), (q2, .inr (2, [.ref q3w, .int ac, .int wy, .int fa, .int fp])), (q3w, .inr (3, [.ref q3fiw, .ref q3tow, .int thw, .int hew, .int maw, .int row])), (q3fiw, .inl (cI, 12, .inl fiw)), (q3tow, .inl (cI, 12, .inl tow)), (q4im, .inl (cS, 2, .inr (.inr (.inr (.inr im)))))] sz)) (kQi (dC, dI) [(q4, .inr (4, [.ref q0, .ref q1, .ref q2, .ref q4im])), (q0, .inr (0, [.ref q0sg, .int ct])), (q0sg, .inl (cI, 60, .inl sg)), (q1, .inr (1, [.ref q3, .ref q1ne, .int si, .int ft])), (q3, .inr (3, [.ref q3fi, .ref q3to, .int th, .int he, .int ma, .int ro])), (q3fi, .inl (cI, 12, .inl fi)), (q3to, .inl (cI, 12, .inl to)), (q1ne, .inl (cI, 8, .inl ne)), (q2, .inr (2, [.ref q3w, .int ac, .int wy, .int fa, .int fp])), (q3w, .inr (3, [.ref q3fiw, .ref q3tow, .int thw, .int hew, .int maw, .int row])), (q3fiw, .inl (cI, 12, .inl fiw)), (q3tow, .inl (cI, 12, .inl tow)), (q4im, .inl (cS, 2, .inr (.inr (.inr (.inr im)))))] [(q4, .inr (4, [.ref q0, .ref q1, .ref q2, .ref q4im])), (q0, .inr (0, [.ref q0sg, .int ct])), (q0sg, .inl (cI, 60, .inl sg)), (q1, .inr (1, [.ref q3, .ref q1ne, .int si, .int ft])), (q3, .inr (3, [.ref q3fi, .ref q3to, .int th, .int he, .int ma, .int ro])), (q3fi, .inl (cI, 12, .inl fi)), (q3to, .inl (cI, 12, .inl to)), (q1ne, .inl (cI, 8, .inl ne)), (q2, .inr (2, [.ref q3w, .int ac, .int wy, .int fa, .int fp])), (q3w, .inr (3, [.ref q3fiw, .ref q3tow, .int thw, .int hew, .int maw, .int row])), (q3fiw, .inl (cI, 12, .inl fiw)), (q3tow, .inl (cI, 12, .inl tow)), (q4im, .inl (cS, 2, .inr (.inr (.inr (.inr im)))))] sz r0) 0 0 (va_A [(q4, .inr (4, [.ref q0, .ref q1, .ref q2, .ref q4im])), (q0, .inr (0, [.ref q0sg, .int ct])), (q0sg, .inl (cI, 60, .inl sg)), (q1, .inr (1, [.ref q3, .ref q1ne, .int si, .int ft])), (q3, .inr (3, [.ref q3fi, .ref q3to, .int th, .int he, .int ma, .int ro])), (q3fi, .inl (cI, 12, .inl fi)), (q3to, .inl (cI, 12, .inl to)), (q1ne, .inl (cI, 8, .inl ne)), (q2, .inr (2, [.ref q3w, .int ac, .int wy, .int fa, .int fp])), (q3w, .inr (3, [.ref q3fiw, .ref q3tow, .int thw, .int hew, .int maw, .int row])), (q3fiw, .inl (cI, 12, .inl fiw)), (q3tow, .inl (cI, 12, .inl tow)), (q4im, .inl (cS, 2, .inr (.inr (.inr (.inr im)))))] sz) := by
  refine kMi (own := RX4) (ty := .int) rfl (by decide) rfl ?_ (Nat.le_of_ble_eq_true rfl)
  intro p e s m args below meth c Q A CF hK hN hA hP hD hret ls hl
  have hS : va_S A s.heap s.heap [] := va_S.rf
  obtain ⟨hx, hb, hml, hown, hts⟩ := id CF
  have hl : lv_has ls 5 [(0, .ref q4), (1, .int v1), (2, .int v2), (3, .int v3)] := hl
  unfold m_X4_watch at hs
  refine lv_iload_n hx hb dX4_watch_0 rfl (lv_at hl 1 rfl) ?_
  refine lv_iconst (v := 0) hx hb dX4_watch_1 (by decide) ?_
  refine lv_sipush (v := 4095) hx hb dX4_watch_2 (by decide) ?_
  refine kpi (va_runS (As := [.int v1, .int (0 : Int32), .int (4095 : Int32)]) (rest := []) ⟨hx, hb, hml, hown, hts⟩ (k_X4_isOutside l v1 (0 : Int32) (4095 : Int32) _ rfl) (va_cwS 3 hts (kGood (kgS mG_188 mG_12 mG_13 mG_9)) rfl rfl rfl hd_X4_isOutside ⟨Nat.le_of_ble_eq_true rfl, Nat.le_of_ble_eq_true rfl⟩) preEq rfl rfl hl.1 rfl (lv_room (Nat.le_of_ble_eq_true rfl)) dX4_watch_5 ⟨Nat.zero_le _, Nat.zero_le _⟩) ?_
  refine lv_if_ne (tgt := 29) hx hb dX4_watch_8 (by decide) (fun c_1 => ?_) (fun c_1 => ?_)
  · replace hs := if_n c_1 hs
    refine lv_bipush (v := -2) hx hb dX4_watch_29 (by decide) ?_
    cases hs
    exact hret _ _ _ _ hP hD hS (vp_nar_int _) dX4_watch_31
  · replace hs := if_p c_1 hs
    refine lv_iload_n hx hb dX4_watch_11 rfl (lv_at hl 2 rfl) ?_
    refine lv_iconst (v := 0) hx hb dX4_watch_12 (by decide) ?_
    refine lv_iconst (v := 3) hx hb dX4_watch_13 (by decide) ?_
    refine kpi (va_runS (As := [.int v2, .int (0 : Int32), .int (3 : Int32)]) (rest := []) ⟨hx, hb, hml, hown, hts⟩ (k_X4_isOutside l v2 (0 : Int32) (3 : Int32) _ rfl) (va_cwS 3 hts (kGood (kgS mG_188 mG_12 mG_13 mG_9)) rfl rfl rfl hd_X4_isOutside ⟨Nat.le_of_ble_eq_true rfl, Nat.le_of_ble_eq_true rfl⟩) preEq rfl rfl hl.1 rfl (lv_room (Nat.le_of_ble_eq_true rfl)) dX4_watch_14 ⟨Nat.zero_le _, Nat.zero_le _⟩) ?_
    refine lv_if_ne (tgt := 29) hx hb dX4_watch_17 (by decide) (fun c_2 => ?_) (fun c_2 => ?_)
    · replace hs := if_n c_2 hs
      refine lv_bipush (v := -2) hx hb dX4_watch_29 (by decide) ?_
      cases hs
      exact hret _ _ _ _ hP hD hS (vp_nar_int _) dX4_watch_31
    · replace hs := if_p c_2 hs
      refine lv_iload_n hx hb dX4_watch_20 rfl (lv_at hl 3 rfl) ?_
      refine lv_iconst (v := 0) hx hb dX4_watch_21 (by decide) ?_
      refine lv_iconst (v := 1) hx hb dX4_watch_22 (by decide) ?_
      refine kpi (va_runS (As := [.int v3, .int (0 : Int32), .int (1 : Int32)]) (rest := []) ⟨hx, hb, hml, hown, hts⟩ (k_X4_isOutside l v3 (0 : Int32) (1 : Int32) _ rfl) (va_cwS 3 hts (kGood (kgS mG_188 mG_12 mG_13 mG_9)) rfl rfl rfl hd_X4_isOutside ⟨Nat.le_of_ble_eq_true rfl, Nat.le_of_ble_eq_true rfl⟩) preEq rfl rfl hl.1 rfl (lv_room (Nat.le_of_ble_eq_true rfl)) dX4_watch_23 ⟨Nat.zero_le _, Nat.zero_le _⟩) ?_
      refine lv_if_eq (tgt := 32) hx hb dX4_watch_26 (by decide) (fun c_3 => ?_) (fun c_3 => ?_)
      · replace hs := if_p c_3 hs
        refine lv_iload_n hx hb dX4_watch_32 rfl (lv_at hl 1 rfl) ?_
        refine lv_iload_n hx hb dX4_watch_33 rfl (lv_at hl 2 rfl) ?_
        obtain ⟨r_4, hc_5, hs⟩ := ob1_e hs
        refine kpi (va_runS (As := [.int v1, .int v2]) (rest := []) ⟨hx, hb, hml, hown, hts⟩ (k_X4_fewestWatchers l v1 v2 r_4 hc_5) (va_cwS 2 hts (kGood (kgS mG_261 mG_262 mG_13 mG_257)) rfl rfl rfl hd_X4_fewestWatchers ⟨Nat.le_of_ble_eq_true rfl, Nat.le_of_ble_eq_true rfl⟩) preEq rfl rfl hl.1 rfl (lv_room (Nat.le_of_ble_eq_true rfl)) dX4_watch_34 ⟨Nat.zero_le _, Nat.zero_le _⟩) ?_
        refine lv_istore (lv' := [(4, .int r_4), (0, .ref q4), (1, .int v1), (2, .int v2), (3, .int v3)]) hx hb dX4_watch_37 hl (by decide) rfl (fun ls hl => ?_)
        refine lv_iload_n hx hb dX4_watch_39 rfl (lv_at hl 4 rfl) ?_
        refine lv_if_ne (tgt := 51) hx hb dX4_watch_40 (by decide) (fun c_6 => ?_) (fun c_6 => ?_)
        · replace hs := if_n c_6 hs
          refine lv_iload hx hb dX4_watch_51 (lv_at hl 0 rfl) ?_
          cases hs
          exact hret _ _ _ _ hP hD hS (vp_nar_int _) dX4_watch_53
        · replace hs := if_p c_6 hs
          refine lv_iload hx hb dX4_watch_43 (lv_at hl 0 rfl) ?_
          refine kpi (va_runS (As := [.int r_4]) (rest := []) ⟨hx, hb, hml, hown, hts⟩ (k_J6_bitCount_0f7a4 l r_4 _ rfl) (va_cwS 1 hts (kGood (kgS mG_191 mG_58 mG_59 mG_52)) rfl rfl rfl hd_J6_bitCount_0f7a4 ⟨Nat.le_of_ble_eq_true rfl, Nat.le_of_ble_eq_true rfl⟩) preEq rfl rfl hl.1 rfl (lv_room (Nat.le_of_ble_eq_true rfl)) dX4_watch_45 ⟨Nat.zero_le _, Nat.zero_le _⟩) ?_
          refine lv_goto (tgt := 53) hx hb dX4_watch_48 (by decide) ?_
          cases hs
          exact hret _ _ _ _ hP hD hS (vp_nar_int _) dX4_watch_53
      · replace hs := if_n c_3 hs
        refine lv_bipush (v := -2) hx hb dX4_watch_29 (by decide) ?_
        cases hs
        exact hret _ _ _ _ hP hD hS (vp_nar_int _) dX4_watch_31
abbrev rm_X4_seen : Room := { frames := 2, cells := 0, slots := 0, locals := 45 }
theorem hd_X4_seen : yX4_seen.cls ≠ "java/lang/invoke/MethodHandle" ∧ yX4_seen.cls ≠ "java/lang/invoke/VarHandle" ∧ (parseMethodDescriptor yX4_seen.desc).map (fun d => d.parameters.length) = some 2 := by decide +kernel
set_option maxHeartbeats 4000000 in
set_option maxRecDepth 100000 in
theorem k_X4_seen (l : Launch) (dC : Nat → ClassId) (dI : Nat → Nat → Nat) (cI cZ cS : ClassId) (q4 q0 q0sg q1 q3 q3fi q3to q1ne q2 q3w q3fiw q3tow q4im : Nat) (sz : Nat) (ct : Int32) (sg : Ar) (si : Int32) (ft : Int32) (th : Int32) (he : Int32) (ma : Int32) (ro : Int32) (fi : Ar) (to : Ar) (ne : Ar) (ac : Int32) (wy : Int32) (fa : Int32) (fp : Int32) (thw : Int32) (hew : Int32) (maw : Int32) (row : Int32) (fiw : Ar) (tow : Ar) (im : Nat → Option Nat) (v1 : Int32) (v2 : Int32) (r0 : Int32) (si_o : Int32) (ft_o : Int32) (hs : m_X4_seen v1 v2 si ft = some (r0, si_o, ft_o)) : Met l yX4_seen (.code yX4_seen cX4_seen 3 (some .int) :: kG) rm_X4_seen (va_Pc [.ref q4, .int v1, .int v2] (kW (dC, dI) cI cZ cS [(q4, .inr (4, [.ref q0, .ref q1, .ref q2, .ref q4im])), (q0, .inr (0, [.ref q0sg, .int ct])), (q0sg, .inl (cI, 60, .inl sg)), (q1, .inr (1, [.ref q3, .ref q1ne, .int si, .int ft])), (q3, .inr (3, [.ref q3fi, .ref q3to, .int th, .int he, .int ma, .int ro])), (q3fi, .inl (cI, 12, .inl fi)), (q3to, .inl (cI, 12, .inl to)), (q1ne, .inl (cI, 8, .inl ne)), (q2, .inr (2, [.ref q3w, .int ac, .int wy, .int fa, .int fp])), (q3w, .inr (3, [.ref q3fiw, .ref q3tow, .int thw, .int hew, .int maw, .int row])), (q3fiw, .inl (cI, 12, .inl fiw)), (q3tow, .inl (cI, 12, .inl tow)), (q4im, .inl (cS, 2, .inr (.inr (.inr (.inr im)))))] sz)) (kQi (dC, dI) [(q4, .inr (4, [.ref q0, .ref q1, .ref q2, .ref q4im])), (q0, .inr (0, [.ref q0sg, .int ct])), (q0sg, .inl (cI, 60, .inl sg)), (q1, .inr (1, [.ref q3, .ref q1ne, .int si, .int ft])), (q3, .inr (3, [.ref q3fi, .ref q3to, .int th, .int he, .int ma, .int ro])), (q3fi, .inl (cI, 12, .inl fi)), (q3to, .inl (cI, 12, .inl to)), (q1ne, .inl (cI, 8, .inl ne)), (q2, .inr (2, [.ref q3w, .int ac, .int wy, .int fa, .int fp])), (q3w, .inr (3, [.ref q3fiw, .ref q3tow, .int thw, .int hew, .int maw, .int row])), (q3fiw, .inl (cI, 12, .inl fiw)), (q3tow, .inl (cI, 12, .inl tow)), (q4im, .inl (cS, 2, .inr (.inr (.inr (.inr im)))))] [(q4, .inr (4, [.ref q0, .ref q1, .ref q2, .ref q4im])), (q0, .inr (0, [.ref q0sg, .int ct])), (q0sg, .inl (cI, 60, .inl sg)), (q1, .inr (1, [.ref q3, .ref q1ne, .int si_o, .int ft_o])), (q3, .inr (3, [.ref q3fi, .ref q3to, .int th, .int he, .int ma, .int ro])), (q3fi, .inl (cI, 12, .inl fi)), (q3to, .inl (cI, 12, .inl to)), (q1ne, .inl (cI, 8, .inl ne)), (q2, .inr (2, [.ref q3w, .int ac, .int wy, .int fa, .int fp])), (q3w, .inr (3, [.ref q3fiw, .ref q3tow, .int thw, .int hew, .int maw, .int row])), (q3fiw, .inl (cI, 12, .inl fiw)), (q3tow, .inl (cI, 12, .inl tow)), (q4im, .inl (cS, 2, .inr (.inr (.inr (.inr im)))))] sz r0) 0 0 (va_A [(q4, .inr (4, [.ref q0, .ref q1, .ref q2, .ref q4im])), (q0, .inr (0, [.ref q0sg, .int ct])), (q0sg, .inl (cI, 60, .inl sg)), (q1, .inr (1, [.ref q3, .ref q1ne, .int si, .int ft])), (q3, .inr (3, [.ref q3fi, .ref q3to, .int th, .int he, .int ma, .int ro])), (q3fi, .inl (cI, 12, .inl fi)), (q3to, .inl (cI, 12, .inl to)), (q1ne, .inl (cI, 8, .inl ne)), (q2, .inr (2, [.ref q3w, .int ac, .int wy, .int fa, .int fp])), (q3w, .inr (3, [.ref q3fiw, .ref q3tow, .int thw, .int hew, .int maw, .int row])), (q3fiw, .inl (cI, 12, .inl fiw)), (q3tow, .inl (cI, 12, .inl tow)), (q4im, .inl (cS, 2, .inr (.inr (.inr (.inr im)))))] sz) := by
  refine kMi (own := RX4) (ty := .int) rfl (by decide) rfl ?_ (Nat.le_of_ble_eq_true rfl)
  intro p e s m args below meth c Q A CF hK hN hA hP hD hret ls hl
  have hS : va_S A s.heap s.heap [] := va_S.rf
  obtain ⟨hx, hb, hml, hown, hts⟩ := id CF
  have hl : lv_has ls 3 [(0, .ref q4), (1, .int v1), (2, .int v2)] := hl
  unfold m_X4_seen at hs
  refine lv_iload_n hx hb dX4_seen_0 rfl (lv_at hl 1 rfl) ?_
  refine lv_iconst (v := 0) hx hb dX4_seen_1 (by decide) ?_
  refine lv_bipush (v := 9) hx hb dX4_seen_2 (by decide) ?_
  refine kpi (va_runS (As := [.int v1, .int (0 : Int32), .int (9 : Int32)]) (rest := []) ⟨hx, hb, hml, hown, hts⟩ (k_X4_isOutside l v1 (0 : Int32) (9 : Int32) _ rfl) (va_cwS 3 hts (kGood (kgS mG_188 mG_12 mG_13 mG_9)) rfl rfl rfl hd_X4_isOutside ⟨Nat.le_of_ble_eq_true rfl, Nat.le_of_ble_eq_true rfl⟩) preEq rfl rfl hl.1 rfl (lv_room (Nat.le_of_ble_eq_true rfl)) dX4_seen_4 ⟨Nat.zero_le _, Nat.zero_le _⟩) ?_
  refine lv_if_ne (tgt := 19) hx hb dX4_seen_7 (by decide) (fun c_1 => ?_) (fun c_1 => ?_)
  · replace hs := if_n c_1 hs
    refine lv_bipush (v := -2) hx hb dX4_seen_19 (by decide) ?_
    cases hs
    exact hret _ _ _ _ hP hD hS (vp_nar_int _) dX4_seen_21
  · replace hs := if_p c_1 hs
    refine lv_iload_n hx hb dX4_seen_10 rfl (lv_at hl 2 rfl) ?_
    refine lv_iconst (v := 0) hx hb dX4_seen_11 (by decide) ?_
    refine lv_iconst (v := 2) hx hb dX4_seen_12 (by decide) ?_
    refine kpi (va_runS (As := [.int v2, .int (0 : Int32), .int (2 : Int32)]) (rest := []) ⟨hx, hb, hml, hown, hts⟩ (k_X4_isOutside l v2 (0 : Int32) (2 : Int32) _ rfl) (va_cwS 3 hts (kGood (kgS mG_188 mG_12 mG_13 mG_9)) rfl rfl rfl hd_X4_isOutside ⟨Nat.le_of_ble_eq_true rfl, Nat.le_of_ble_eq_true rfl⟩) preEq rfl rfl hl.1 rfl (lv_room (Nat.le_of_ble_eq_true rfl)) dX4_seen_13 ⟨Nat.zero_le _, Nat.zero_le _⟩) ?_
    refine lv_if_eq (tgt := 22) hx hb dX4_seen_16 (by decide) (fun c_2 => ?_) (fun c_2 => ?_)
    · replace hs := if_p c_2 hs
      refine lv_aload_n hx hb dX4_seen_22 rfl (lv_at hl 0 rfl) ?_
      refine va_get (D := (dC, dI)) (ci := 4) (v := .ref q1) (C := RX4) (T := TX4) (N := 4) hx hb hts (fun w h => kg1 (iG_4 w h)) hown hK hP 0 rfl rfl 1 (by decide) (hts _ (kg1 mG_174)) (fun _ h9 => h9) rfl dX4_seen_23 ?_
      refine va_get (D := (dC, dI)) (ci := 1) (v := .int si) (C := RX1) (T := TX1) (N := 4) hx hb hts (fun w h => kg1 (iG_1 w h)) hown hK hP 3 rfl rfl 2 (by decide) (hts _ (kg1 mG_266)) (fun _ h9 => h9) rfl dX4_seen_26 ?_
      refine lv_bipush (v := 8) hx hb dX4_seen_29 (by decide) ?_
      refine lv_icmp_lt (tgt := 37) hx hb dX4_seen_31 (by decide) (fun c_3 => ?_) (fun c_3 => ?_)
      · replace hs := if_p c_3 hs
        refine lv_aload_n hx hb dX4_seen_37 rfl (lv_at hl 0 rfl) ?_
        refine va_get (D := (dC, dI)) (ci := 4) (v := .ref q1) (C := RX4) (T := TX4) (N := 4) hx hb hts (fun w h => kg1 (iG_4 w h)) hown hK hP 0 rfl rfl 1 (by decide) (hts _ (kg1 mG_174)) (fun _ h9 => h9) rfl dX4_seen_38 ?_
        refine lv_dup hx hb dX4_seen_41 rfl ?_
        refine va_get (D := (dC, dI)) (ci := 1) (v := .int si) (C := RX1) (T := TX1) (N := 4) hx hb hts (fun w h => kg1 (iG_1 w h)) hown hK hP 3 rfl rfl 2 (by decide) (hts _ (kg1 mG_266)) (fun _ h9 => h9) rfl dX4_seen_42 ?_
        refine lv_iconst (v := 1) hx hb dX4_seen_45 (by decide) ?_
        refine lv_iadd hx hb dX4_seen_46 ?_
        refine va_put (D := (dC, dI)) (ci := 1) (v := .int (si + (1 : Int32))) (ty := .int) (C := RX1) (T := TX1) (N := 4) hx hb hts (fun w h => kg1 (iG_1 w h)) tyX1 tyX1_ok nmX1 hown hK hP hD hS 3 rfl rfl 2 (by decide) (hts _ (kg1 mG_266)) (fun _ h9 => h9) rfl rfl rfl rfl (Nat.le_of_ble_eq_true rfl) dX4_seen_47 (fun H locs hP hD hS => ?_)
        have hP : va_P (dC, dI) vwCl [(q4, .inr (4, [.ref q0, .ref q1, .ref q2, .ref q4im])), (q0, .inr (0, [.ref q0sg, .int ct])), (q0sg, .inl (cI, 60, .inl sg)), (q1, .inr (1, [.ref q3, .ref q1ne, .int (si + (1 : Int32)), .int ft])), (q3, .inr (3, [.ref q3fi, .ref q3to, .int th, .int he, .int ma, .int ro])), (q3fi, .inl (cI, 12, .inl fi)), (q3to, .inl (cI, 12, .inl to)), (q1ne, .inl (cI, 8, .inl ne)), (q2, .inr (2, [.ref q3w, .int ac, .int wy, .int fa, .int fp])), (q3w, .inr (3, [.ref q3fiw, .ref q3tow, .int thw, .int hew, .int maw, .int row])), (q3fiw, .inl (cI, 12, .inl fiw)), (q3tow, .inl (cI, 12, .inl tow)), (q4im, .inl (cS, 2, .inr (.inr (.inr (.inr im)))))] H := hP
        have hD : va_D A [(q4, .inr (4, [.ref q0, .ref q1, .ref q2, .ref q4im])), (q0, .inr (0, [.ref q0sg, .int ct])), (q0sg, .inl (cI, 60, .inl sg)), (q1, .inr (1, [.ref q3, .ref q1ne, .int (si + (1 : Int32)), .int ft])), (q3, .inr (3, [.ref q3fi, .ref q3to, .int th, .int he, .int ma, .int ro])), (q3fi, .inl (cI, 12, .inl fi)), (q3to, .inl (cI, 12, .inl to)), (q1ne, .inl (cI, 8, .inl ne)), (q2, .inr (2, [.ref q3w, .int ac, .int wy, .int fa, .int fp])), (q3w, .inr (3, [.ref q3fiw, .ref q3tow, .int thw, .int hew, .int maw, .int row])), (q3fiw, .inl (cI, 12, .inl fiw)), (q3tow, .inl (cI, 12, .inl tow)), (q4im, .inl (cS, 2, .inr (.inr (.inr (.inr im)))))] := hD
        refine lv_aload_n hx hb dX4_seen_50 rfl (lv_at hl 0 rfl) ?_
        refine va_get (D := (dC, dI)) (ci := 4) (v := .ref q1) (C := RX4) (T := TX4) (N := 4) hx hb hts (fun w h => kg1 (iG_4 w h)) hown hK hP 0 rfl rfl 1 (by decide) (hts _ (kg1 mG_174)) (fun _ h9 => h9) rfl dX4_seen_51 ?_
        refine lv_dup hx hb dX4_seen_54 rfl ?_
        refine va_get (D := (dC, dI)) (ci := 1) (v := .int ft) (C := RX1) (T := TX1) (N := 4) hx hb hts (fun w h => kg1 (iG_1 w h)) hown hK hP 3 rfl rfl 3 (by decide) (hts _ (kg1 mG_267)) (fun _ h9 => h9) rfl dX4_seen_55 ?_
        refine lv_iload_n hx hb dX4_seen_58 rfl (lv_at hl 1 rfl) ?_
        refine lv_iload_n hx hb dX4_seen_59 rfl (lv_at hl 2 rfl) ?_
        obtain ⟨r_4, hc_5, hs⟩ := ob1_e hs
        refine kpi (va_runS (As := [.int v1, .int v2]) (rest := [.int ft, .ref q1]) ⟨hx, hb, hml, hown, hts⟩ (k_X4_tonesAnswering l v1 v2 r_4 hc_5) (va_cwS 2 hts (kGood (kgS mG_268 mG_269 mG_13 mG_263)) rfl rfl rfl hd_X4_tonesAnswering ⟨Nat.le_of_ble_eq_true rfl, Nat.le_of_ble_eq_true rfl⟩) preEq rfl rfl hl.1 rfl (lv_room (Nat.le_of_ble_eq_true rfl)) dX4_seen_60 ⟨Nat.zero_le _, Nat.zero_le _⟩) ?_
        refine lv_iand hx hb dX4_seen_63 ?_
        refine va_put (D := (dC, dI)) (ci := 1) (v := .int (ft &&& r_4)) (ty := .int) (C := RX1) (T := TX1) (N := 4) hx hb hts (fun w h => kg1 (iG_1 w h)) tyX1 tyX1_ok nmX1 hown hK hP hD hS 3 rfl rfl 3 (by decide) (hts _ (kg1 mG_267)) (fun _ h9 => h9) rfl rfl rfl rfl (Nat.le_of_ble_eq_true rfl) dX4_seen_64 (fun H locs hP hD hS => ?_)
        have hP : va_P (dC, dI) vwCl [(q4, .inr (4, [.ref q0, .ref q1, .ref q2, .ref q4im])), (q0, .inr (0, [.ref q0sg, .int ct])), (q0sg, .inl (cI, 60, .inl sg)), (q1, .inr (1, [.ref q3, .ref q1ne, .int (si + (1 : Int32)), .int (ft &&& r_4)])), (q3, .inr (3, [.ref q3fi, .ref q3to, .int th, .int he, .int ma, .int ro])), (q3fi, .inl (cI, 12, .inl fi)), (q3to, .inl (cI, 12, .inl to)), (q1ne, .inl (cI, 8, .inl ne)), (q2, .inr (2, [.ref q3w, .int ac, .int wy, .int fa, .int fp])), (q3w, .inr (3, [.ref q3fiw, .ref q3tow, .int thw, .int hew, .int maw, .int row])), (q3fiw, .inl (cI, 12, .inl fiw)), (q3tow, .inl (cI, 12, .inl tow)), (q4im, .inl (cS, 2, .inr (.inr (.inr (.inr im)))))] H := hP
        have hD : va_D A [(q4, .inr (4, [.ref q0, .ref q1, .ref q2, .ref q4im])), (q0, .inr (0, [.ref q0sg, .int ct])), (q0sg, .inl (cI, 60, .inl sg)), (q1, .inr (1, [.ref q3, .ref q1ne, .int (si + (1 : Int32)), .int (ft &&& r_4)])), (q3, .inr (3, [.ref q3fi, .ref q3to, .int th, .int he, .int ma, .int ro])), (q3fi, .inl (cI, 12, .inl fi)), (q3to, .inl (cI, 12, .inl to)), (q1ne, .inl (cI, 8, .inl ne)), (q2, .inr (2, [.ref q3w, .int ac, .int wy, .int fa, .int fp])), (q3w, .inr (3, [.ref q3fiw, .ref q3tow, .int thw, .int hew, .int maw, .int row])), (q3fiw, .inl (cI, 12, .inl fiw)), (q3tow, .inl (cI, 12, .inl tow)), (q4im, .inl (cS, 2, .inr (.inr (.inr (.inr im)))))] := hD
        refine lv_aload_n hx hb dX4_seen_67 rfl (lv_at hl 0 rfl) ?_
        refine va_get (D := (dC, dI)) (ci := 4) (v := .ref q1) (C := RX4) (T := TX4) (N := 4) hx hb hts (fun w h => kg1 (iG_4 w h)) hown hK hP 0 rfl rfl 1 (by decide) (hts _ (kg1 mG_174)) (fun _ h9 => h9) rfl dX4_seen_68 ?_
        refine va_get (D := (dC, dI)) (ci := 1) (v := .int (si + (1 : Int32))) (C := RX1) (T := TX1) (N := 4) hx hb hts (fun w h => kg1 (iG_1 w h)) hown hK hP 3 rfl rfl 2 (by decide) (hts _ (kg1 mG_266)) (fun _ h9 => h9) rfl dX4_seen_71 ?_
        cases hs
        exact hret _ _ _ _ hP hD hS (vp_nar_int _) dX4_seen_74
      · replace hs := if_n c_3 hs
        refine lv_bipush (v := -4) hx hb dX4_seen_34 (by decide) ?_
        cases hs
        exact hret _ _ _ _ hP hD hS (vp_nar_int _) dX4_seen_36
    · replace hs := if_n c_2 hs
      refine lv_bipush (v := -2) hx hb dX4_seen_19 (by decide) ?_
      cases hs
      exact hret _ _ _ _ hP hD hS (vp_nar_int _) dX4_seen_21
abbrev rm_X4_forget : Room := { frames := 0, cells := 0, slots := 0, locals := 0 }
theorem hd_X4_forget : yX4_forget.cls ≠ "java/lang/invoke/MethodHandle" ∧ yX4_forget.cls ≠ "java/lang/invoke/VarHandle" ∧ (parseMethodDescriptor yX4_forget.desc).map (fun d => d.parameters.length) = some 0 := by decide +kernel
set_option maxHeartbeats 4000000 in
set_option maxRecDepth 100000 in
theorem k_X4_forget (l : Launch) (dC : Nat → ClassId) (dI : Nat → Nat → Nat) (cI cZ cS : ClassId) (q4 q0 q0sg q1 q3 q3fi q3to q1ne q2 q3w q3fiw q3tow q4im : Nat) (sz : Nat) (ct : Int32) (sg : Ar) (si : Int32) (ft : Int32) (th : Int32) (he : Int32) (ma : Int32) (ro : Int32) (fi : Ar) (to : Ar) (ne : Ar) (ac : Int32) (wy : Int32) (fa : Int32) (fp : Int32) (thw : Int32) (hew : Int32) (maw : Int32) (row : Int32) (fiw : Ar) (tow : Ar) (im : Nat → Option Nat)  (r0 : Int32) (si_o : Int32) (ft_o : Int32) (hs : m_X4_forget si = some (r0, si_o, ft_o)) : Met l yX4_forget (.code yX4_forget cX4_forget 2 (some .int) :: kG) rm_X4_forget (va_Pc [.ref q4] (kW (dC, dI) cI cZ cS [(q4, .inr (4, [.ref q0, .ref q1, .ref q2, .ref q4im])), (q0, .inr (0, [.ref q0sg, .int ct])), (q0sg, .inl (cI, 60, .inl sg)), (q1, .inr (1, [.ref q3, .ref q1ne, .int si, .int ft])), (q3, .inr (3, [.ref q3fi, .ref q3to, .int th, .int he, .int ma, .int ro])), (q3fi, .inl (cI, 12, .inl fi)), (q3to, .inl (cI, 12, .inl to)), (q1ne, .inl (cI, 8, .inl ne)), (q2, .inr (2, [.ref q3w, .int ac, .int wy, .int fa, .int fp])), (q3w, .inr (3, [.ref q3fiw, .ref q3tow, .int thw, .int hew, .int maw, .int row])), (q3fiw, .inl (cI, 12, .inl fiw)), (q3tow, .inl (cI, 12, .inl tow)), (q4im, .inl (cS, 2, .inr (.inr (.inr (.inr im)))))] sz)) (kQi (dC, dI) [(q4, .inr (4, [.ref q0, .ref q1, .ref q2, .ref q4im])), (q0, .inr (0, [.ref q0sg, .int ct])), (q0sg, .inl (cI, 60, .inl sg)), (q1, .inr (1, [.ref q3, .ref q1ne, .int si, .int ft])), (q3, .inr (3, [.ref q3fi, .ref q3to, .int th, .int he, .int ma, .int ro])), (q3fi, .inl (cI, 12, .inl fi)), (q3to, .inl (cI, 12, .inl to)), (q1ne, .inl (cI, 8, .inl ne)), (q2, .inr (2, [.ref q3w, .int ac, .int wy, .int fa, .int fp])), (q3w, .inr (3, [.ref q3fiw, .ref q3tow, .int thw, .int hew, .int maw, .int row])), (q3fiw, .inl (cI, 12, .inl fiw)), (q3tow, .inl (cI, 12, .inl tow)), (q4im, .inl (cS, 2, .inr (.inr (.inr (.inr im)))))] [(q4, .inr (4, [.ref q0, .ref q1, .ref q2, .ref q4im])), (q0, .inr (0, [.ref q0sg, .int ct])), (q0sg, .inl (cI, 60, .inl sg)), (q1, .inr (1, [.ref q3, .ref q1ne, .int si_o, .int ft_o])), (q3, .inr (3, [.ref q3fi, .ref q3to, .int th, .int he, .int ma, .int ro])), (q3fi, .inl (cI, 12, .inl fi)), (q3to, .inl (cI, 12, .inl to)), (q1ne, .inl (cI, 8, .inl ne)), (q2, .inr (2, [.ref q3w, .int ac, .int wy, .int fa, .int fp])), (q3w, .inr (3, [.ref q3fiw, .ref q3tow, .int thw, .int hew, .int maw, .int row])), (q3fiw, .inl (cI, 12, .inl fiw)), (q3tow, .inl (cI, 12, .inl tow)), (q4im, .inl (cS, 2, .inr (.inr (.inr (.inr im)))))] sz r0) 0 0 (va_A [(q4, .inr (4, [.ref q0, .ref q1, .ref q2, .ref q4im])), (q0, .inr (0, [.ref q0sg, .int ct])), (q0sg, .inl (cI, 60, .inl sg)), (q1, .inr (1, [.ref q3, .ref q1ne, .int si, .int ft])), (q3, .inr (3, [.ref q3fi, .ref q3to, .int th, .int he, .int ma, .int ro])), (q3fi, .inl (cI, 12, .inl fi)), (q3to, .inl (cI, 12, .inl to)), (q1ne, .inl (cI, 8, .inl ne)), (q2, .inr (2, [.ref q3w, .int ac, .int wy, .int fa, .int fp])), (q3w, .inr (3, [.ref q3fiw, .ref q3tow, .int thw, .int hew, .int maw, .int row])), (q3fiw, .inl (cI, 12, .inl fiw)), (q3tow, .inl (cI, 12, .inl tow)), (q4im, .inl (cS, 2, .inr (.inr (.inr (.inr im)))))] sz) := by
  refine kMi (own := RX4) (ty := .int) rfl (by decide) rfl ?_ (Nat.le_of_ble_eq_true rfl)
  intro p e s m args below meth c Q A CF hK hN hA hP hD hret ls hl
  have hS : va_S A s.heap s.heap [] := va_S.rf
  obtain ⟨hx, hb, hml, hown, hts⟩ := id CF
  have hl : lv_has ls 2 [(0, .ref q4)] := hl
  unfold m_X4_forget at hs
  refine lv_aload_n hx hb dX4_forget_0 rfl (lv_at hl 0 rfl) ?_
  refine va_get (D := (dC, dI)) (ci := 4) (v := .ref q1) (C := RX4) (T := TX4) (N := 4) hx hb hts (fun w h => kg1 (iG_4 w h)) hown hK hP 0 rfl rfl 1 (by decide) (hts _ (kg1 mG_174)) (fun _ h9 => h9) rfl dX4_forget_1 ?_
  refine va_get (D := (dC, dI)) (ci := 1) (v := .int si) (C := RX1) (T := TX1) (N := 4) hx hb hts (fun w h => kg1 (iG_1 w h)) hown hK hP 3 rfl rfl 2 (by decide) (hts _ (kg1 mG_266)) (fun _ h9 => h9) rfl dX4_forget_4 ?_
  refine lv_istore_n (lv' := [(1, .int si), (0, .ref q4)]) hx hb dX4_forget_7 rfl hl (by decide) rfl (fun ls hl => ?_)
  refine lv_aload_n hx hb dX4_forget_8 rfl (lv_at hl 1 rfl) ?_
  refine va_get (D := (dC, dI)) (ci := 4) (v := .ref q1) (C := RX4) (T := TX4) (N := 4) hx hb hts (fun w h => kg1 (iG_4 w h)) hown hK hP 0 rfl rfl 1 (by decide) (hts _ (kg1 mG_174)) (fun _ h9 => h9) rfl dX4_forget_9 ?_
  refine lv_iconst (v := 0) hx hb dX4_forget_12 (by decide) ?_
  refine va_put (D := (dC, dI)) (ci := 1) (v := .int (0 : Int32)) (ty := .int) (C := RX1) (T := TX1) (N := 4) hx hb hts (fun w h => kg1 (iG_1 w h)) tyX1 tyX1_ok nmX1 hown hK hP hD hS 3 rfl rfl 2 (by decide) (hts _ (kg1 mG_266)) (fun _ h9 => h9) rfl rfl rfl rfl (Nat.le_of_ble_eq_true rfl) dX4_forget_13 (fun H locs hP hD hS => ?_)
  have hP : va_P (dC, dI) vwCl [(q4, .inr (4, [.ref q0, .ref q1, .ref q2, .ref q4im])), (q0, .inr (0, [.ref q0sg, .int ct])), (q0sg, .inl (cI, 60, .inl sg)), (q1, .inr (1, [.ref q3, .ref q1ne, .int (0 : Int32), .int ft])), (q3, .inr (3, [.ref q3fi, .ref q3to, .int th, .int he, .int ma, .int ro])), (q3fi, .inl (cI, 12, .inl fi)), (q3to, .inl (cI, 12, .inl to)), (q1ne, .inl (cI, 8, .inl ne)), (q2, .inr (2, [.ref q3w, .int ac, .int wy, .int fa, .int fp])), (q3w, .inr (3, [.ref q3fiw, .ref q3tow, .int thw, .int hew, .int maw, .int row])), (q3fiw, .inl (cI, 12, .inl fiw)), (q3tow, .inl (cI, 12, .inl tow)), (q4im, .inl (cS, 2, .inr (.inr (.inr (.inr im)))))] H := hP
  have hD : va_D A [(q4, .inr (4, [.ref q0, .ref q1, .ref q2, .ref q4im])), (q0, .inr (0, [.ref q0sg, .int ct])), (q0sg, .inl (cI, 60, .inl sg)), (q1, .inr (1, [.ref q3, .ref q1ne, .int (0 : Int32), .int ft])), (q3, .inr (3, [.ref q3fi, .ref q3to, .int th, .int he, .int ma, .int ro])), (q3fi, .inl (cI, 12, .inl fi)), (q3to, .inl (cI, 12, .inl to)), (q1ne, .inl (cI, 8, .inl ne)), (q2, .inr (2, [.ref q3w, .int ac, .int wy, .int fa, .int fp])), (q3w, .inr (3, [.ref q3fiw, .ref q3tow, .int thw, .int hew, .int maw, .int row])), (q3fiw, .inl (cI, 12, .inl fiw)), (q3tow, .inl (cI, 12, .inl tow)), (q4im, .inl (cS, 2, .inr (.inr (.inr (.inr im)))))] := hD
  refine lv_aload_n hx hb dX4_forget_16 rfl (lv_at hl 1 rfl) ?_
  refine va_get (D := (dC, dI)) (ci := 4) (v := .ref q1) (C := RX4) (T := TX4) (N := 4) hx hb hts (fun w h => kg1 (iG_4 w h)) hown hK hP 0 rfl rfl 1 (by decide) (hts _ (kg1 mG_174)) (fun _ h9 => h9) rfl dX4_forget_17 ?_
  refine lv_sipush (v := 1023) hx hb dX4_forget_20 (by decide) ?_
  refine va_put (D := (dC, dI)) (ci := 1) (v := .int (1023 : Int32)) (ty := .int) (C := RX1) (T := TX1) (N := 4) hx hb hts (fun w h => kg1 (iG_1 w h)) tyX1 tyX1_ok nmX1 hown hK hP hD hS 3 rfl rfl 3 (by decide) (hts _ (kg1 mG_267)) (fun _ h9 => h9) rfl rfl rfl rfl (Nat.le_of_ble_eq_true rfl) dX4_forget_23 (fun H locs hP hD hS => ?_)
  have hP : va_P (dC, dI) vwCl [(q4, .inr (4, [.ref q0, .ref q1, .ref q2, .ref q4im])), (q0, .inr (0, [.ref q0sg, .int ct])), (q0sg, .inl (cI, 60, .inl sg)), (q1, .inr (1, [.ref q3, .ref q1ne, .int (0 : Int32), .int (1023 : Int32)])), (q3, .inr (3, [.ref q3fi, .ref q3to, .int th, .int he, .int ma, .int ro])), (q3fi, .inl (cI, 12, .inl fi)), (q3to, .inl (cI, 12, .inl to)), (q1ne, .inl (cI, 8, .inl ne)), (q2, .inr (2, [.ref q3w, .int ac, .int wy, .int fa, .int fp])), (q3w, .inr (3, [.ref q3fiw, .ref q3tow, .int thw, .int hew, .int maw, .int row])), (q3fiw, .inl (cI, 12, .inl fiw)), (q3tow, .inl (cI, 12, .inl tow)), (q4im, .inl (cS, 2, .inr (.inr (.inr (.inr im)))))] H := hP
  have hD : va_D A [(q4, .inr (4, [.ref q0, .ref q1, .ref q2, .ref q4im])), (q0, .inr (0, [.ref q0sg, .int ct])), (q0sg, .inl (cI, 60, .inl sg)), (q1, .inr (1, [.ref q3, .ref q1ne, .int (0 : Int32), .int (1023 : Int32)])), (q3, .inr (3, [.ref q3fi, .ref q3to, .int th, .int he, .int ma, .int ro])), (q3fi, .inl (cI, 12, .inl fi)), (q3to, .inl (cI, 12, .inl to)), (q1ne, .inl (cI, 8, .inl ne)), (q2, .inr (2, [.ref q3w, .int ac, .int wy, .int fa, .int fp])), (q3w, .inr (3, [.ref q3fiw, .ref q3tow, .int thw, .int hew, .int maw, .int row])), (q3fiw, .inl (cI, 12, .inl fiw)), (q3tow, .inl (cI, 12, .inl tow)), (q4im, .inl (cS, 2, .inr (.inr (.inr (.inr im)))))] := hD
  refine lv_iload_n hx hb dX4_forget_26 rfl (lv_at hl 0 rfl) ?_
  cases hs
  exact hret _ _ _ _ hP hD hS (vp_nar_int _) dX4_forget_27
abbrev rm_X4_tones : Room := { frames := 0, cells := 0, slots := 0, locals := 0 }
theorem hd_X4_tones : yX4_tones.cls ≠ "java/lang/invoke/MethodHandle" ∧ yX4_tones.cls ≠ "java/lang/invoke/VarHandle" ∧ (parseMethodDescriptor yX4_tones.desc).map (fun d => d.parameters.length) = some 0 := by decide +kernel
set_option maxHeartbeats 4000000 in
set_option maxRecDepth 100000 in
theorem k_X4_tones (l : Launch) (dC : Nat → ClassId) (dI : Nat → Nat → Nat) (cI cZ cS : ClassId) (q4 q0 q0sg q1 q3 q3fi q3to q1ne q2 q3w q3fiw q3tow q4im : Nat) (sz : Nat) (ct : Int32) (sg : Ar) (si : Int32) (ft : Int32) (th : Int32) (he : Int32) (ma : Int32) (ro : Int32) (fi : Ar) (to : Ar) (ne : Ar) (ac : Int32) (wy : Int32) (fa : Int32) (fp : Int32) (thw : Int32) (hew : Int32) (maw : Int32) (row : Int32) (fiw : Ar) (tow : Ar) (im : Nat → Option Nat)  (r0 : Int32) (hs : m_X4_tones ft = r0) : Met l yX4_tones (.code yX4_tones cX4_tones 1 (some .int) :: kG) rm_X4_tones (va_Pc [.ref q4] (kW (dC, dI) cI cZ cS [(q4, .inr (4, [.ref q0, .ref q1, .ref q2, .ref q4im])), (q0, .inr (0, [.ref q0sg, .int ct])), (q0sg, .inl (cI, 60, .inl sg)), (q1, .inr (1, [.ref q3, .ref q1ne, .int si, .int ft])), (q3, .inr (3, [.ref q3fi, .ref q3to, .int th, .int he, .int ma, .int ro])), (q3fi, .inl (cI, 12, .inl fi)), (q3to, .inl (cI, 12, .inl to)), (q1ne, .inl (cI, 8, .inl ne)), (q2, .inr (2, [.ref q3w, .int ac, .int wy, .int fa, .int fp])), (q3w, .inr (3, [.ref q3fiw, .ref q3tow, .int thw, .int hew, .int maw, .int row])), (q3fiw, .inl (cI, 12, .inl fiw)), (q3tow, .inl (cI, 12, .inl tow)), (q4im, .inl (cS, 2, .inr (.inr (.inr (.inr im)))))] sz)) (kQi (dC, dI) [(q4, .inr (4, [.ref q0, .ref q1, .ref q2, .ref q4im])), (q0, .inr (0, [.ref q0sg, .int ct])), (q0sg, .inl (cI, 60, .inl sg)), (q1, .inr (1, [.ref q3, .ref q1ne, .int si, .int ft])), (q3, .inr (3, [.ref q3fi, .ref q3to, .int th, .int he, .int ma, .int ro])), (q3fi, .inl (cI, 12, .inl fi)), (q3to, .inl (cI, 12, .inl to)), (q1ne, .inl (cI, 8, .inl ne)), (q2, .inr (2, [.ref q3w, .int ac, .int wy, .int fa, .int fp])), (q3w, .inr (3, [.ref q3fiw, .ref q3tow, .int thw, .int hew, .int maw, .int row])), (q3fiw, .inl (cI, 12, .inl fiw)), (q3tow, .inl (cI, 12, .inl tow)), (q4im, .inl (cS, 2, .inr (.inr (.inr (.inr im)))))] [(q4, .inr (4, [.ref q0, .ref q1, .ref q2, .ref q4im])), (q0, .inr (0, [.ref q0sg, .int ct])), (q0sg, .inl (cI, 60, .inl sg)), (q1, .inr (1, [.ref q3, .ref q1ne, .int si, .int ft])), (q3, .inr (3, [.ref q3fi, .ref q3to, .int th, .int he, .int ma, .int ro])), (q3fi, .inl (cI, 12, .inl fi)), (q3to, .inl (cI, 12, .inl to)), (q1ne, .inl (cI, 8, .inl ne)), (q2, .inr (2, [.ref q3w, .int ac, .int wy, .int fa, .int fp])), (q3w, .inr (3, [.ref q3fiw, .ref q3tow, .int thw, .int hew, .int maw, .int row])), (q3fiw, .inl (cI, 12, .inl fiw)), (q3tow, .inl (cI, 12, .inl tow)), (q4im, .inl (cS, 2, .inr (.inr (.inr (.inr im)))))] sz r0) 0 0 (va_A [(q4, .inr (4, [.ref q0, .ref q1, .ref q2, .ref q4im])), (q0, .inr (0, [.ref q0sg, .int ct])), (q0sg, .inl (cI, 60, .inl sg)), (q1, .inr (1, [.ref q3, .ref q1ne, .int si, .int ft])), (q3, .inr (3, [.ref q3fi, .ref q3to, .int th, .int he, .int ma, .int ro])), (q3fi, .inl (cI, 12, .inl fi)), (q3to, .inl (cI, 12, .inl to)), (q1ne, .inl (cI, 8, .inl ne)), (q2, .inr (2, [.ref q3w, .int ac, .int wy, .int fa, .int fp])), (q3w, .inr (3, [.ref q3fiw, .ref q3tow, .int thw, .int hew, .int maw, .int row])), (q3fiw, .inl (cI, 12, .inl fiw)), (q3tow, .inl (cI, 12, .inl tow)), (q4im, .inl (cS, 2, .inr (.inr (.inr (.inr im)))))] sz) := by
  refine kMi (own := RX4) (ty := .int) rfl (by decide) rfl ?_ (Nat.le_of_ble_eq_true rfl)
  intro p e s m args below meth c Q A CF hK hN hA hP hD hret ls hl
  have hS : va_S A s.heap s.heap [] := va_S.rf
  obtain ⟨hx, hb, hml, hown, hts⟩ := id CF
  have hl : lv_has ls 1 [(0, .ref q4)] := hl
  unfold m_X4_tones at hs
  refine lv_aload_n hx hb dX4_tones_0 rfl (lv_at hl 0 rfl) ?_
  refine va_get (D := (dC, dI)) (ci := 4) (v := .ref q1) (C := RX4) (T := TX4) (N := 4) hx hb hts (fun w h => kg1 (iG_4 w h)) hown hK hP 0 rfl rfl 1 (by decide) (hts _ (kg1 mG_174)) (fun _ h9 => h9) rfl dX4_tones_1 ?_
  refine va_get (D := (dC, dI)) (ci := 1) (v := .int ft) (C := RX1) (T := TX1) (N := 4) hx hb hts (fun w h => kg1 (iG_1 w h)) hown hK hP 3 rfl rfl 3 (by decide) (hts _ (kg1 mG_267)) (fun _ h9 => h9) rfl dX4_tones_4 ?_
  cases hs
  exact hret _ _ _ _ hP hD hS (vp_nar_int _) dX4_tones_7
abbrev rm_X4_next : Room := { frames := 4, cells := 0, slots := 0, locals := 92 }
theorem hd_X4_next : yX4_next.cls ≠ "java/lang/invoke/MethodHandle" ∧ yX4_next.cls ≠ "java/lang/invoke/VarHandle" ∧ (parseMethodDescriptor yX4_next.desc).map (fun d => d.parameters.length) = some 1 := by decide +kernel
set_option maxHeartbeats 4000000 in
set_option maxRecDepth 100000 in
theorem k_X4_next (l : Launch) (dC : Nat → ClassId) (dI : Nat → Nat → Nat) (cI cZ cS : ClassId) (q4 q0 q0sg q1 q3 q3fi q3to q1ne q2 q3w q3fiw q3tow q4im : Nat) (sz : Nat) (ct : Int32) (sg : Ar) (si : Int32) (ft : Int32) (th : Int32) (he : Int32) (ma : Int32) (ro : Int32) (fi : Ar) (to : Ar) (ne : Ar) (ac : Int32) (wy : Int32) (fa : Int32) (fp : Int32) (thw : Int32) (hew : Int32) (maw : Int32) (row : Int32) (fiw : Ar) (tow : Ar) (im : Nat → Option Nat) (v1 : Int32) (r0 : Int32) (hs : m_X4_next v1 ft = some r0) : Met l yX4_next (.code yX4_next cX4_next 3 (some .int) :: kG) rm_X4_next (va_Pc [.ref q4, .int v1] (kW (dC, dI) cI cZ cS [(q4, .inr (4, [.ref q0, .ref q1, .ref q2, .ref q4im])), (q0, .inr (0, [.ref q0sg, .int ct])), (q0sg, .inl (cI, 60, .inl sg)), (q1, .inr (1, [.ref q3, .ref q1ne, .int si, .int ft])), (q3, .inr (3, [.ref q3fi, .ref q3to, .int th, .int he, .int ma, .int ro])), (q3fi, .inl (cI, 12, .inl fi)), (q3to, .inl (cI, 12, .inl to)), (q1ne, .inl (cI, 8, .inl ne)), (q2, .inr (2, [.ref q3w, .int ac, .int wy, .int fa, .int fp])), (q3w, .inr (3, [.ref q3fiw, .ref q3tow, .int thw, .int hew, .int maw, .int row])), (q3fiw, .inl (cI, 12, .inl fiw)), (q3tow, .inl (cI, 12, .inl tow)), (q4im, .inl (cS, 2, .inr (.inr (.inr (.inr im)))))] sz)) (kQi (dC, dI) [(q4, .inr (4, [.ref q0, .ref q1, .ref q2, .ref q4im])), (q0, .inr (0, [.ref q0sg, .int ct])), (q0sg, .inl (cI, 60, .inl sg)), (q1, .inr (1, [.ref q3, .ref q1ne, .int si, .int ft])), (q3, .inr (3, [.ref q3fi, .ref q3to, .int th, .int he, .int ma, .int ro])), (q3fi, .inl (cI, 12, .inl fi)), (q3to, .inl (cI, 12, .inl to)), (q1ne, .inl (cI, 8, .inl ne)), (q2, .inr (2, [.ref q3w, .int ac, .int wy, .int fa, .int fp])), (q3w, .inr (3, [.ref q3fiw, .ref q3tow, .int thw, .int hew, .int maw, .int row])), (q3fiw, .inl (cI, 12, .inl fiw)), (q3tow, .inl (cI, 12, .inl tow)), (q4im, .inl (cS, 2, .inr (.inr (.inr (.inr im)))))] [(q4, .inr (4, [.ref q0, .ref q1, .ref q2, .ref q4im])), (q0, .inr (0, [.ref q0sg, .int ct])), (q0sg, .inl (cI, 60, .inl sg)), (q1, .inr (1, [.ref q3, .ref q1ne, .int si, .int ft])), (q3, .inr (3, [.ref q3fi, .ref q3to, .int th, .int he, .int ma, .int ro])), (q3fi, .inl (cI, 12, .inl fi)), (q3to, .inl (cI, 12, .inl to)), (q1ne, .inl (cI, 8, .inl ne)), (q2, .inr (2, [.ref q3w, .int ac, .int wy, .int fa, .int fp])), (q3w, .inr (3, [.ref q3fiw, .ref q3tow, .int thw, .int hew, .int maw, .int row])), (q3fiw, .inl (cI, 12, .inl fiw)), (q3tow, .inl (cI, 12, .inl tow)), (q4im, .inl (cS, 2, .inr (.inr (.inr (.inr im)))))] sz r0) 0 0 (va_A [(q4, .inr (4, [.ref q0, .ref q1, .ref q2, .ref q4im])), (q0, .inr (0, [.ref q0sg, .int ct])), (q0sg, .inl (cI, 60, .inl sg)), (q1, .inr (1, [.ref q3, .ref q1ne, .int si, .int ft])), (q3, .inr (3, [.ref q3fi, .ref q3to, .int th, .int he, .int ma, .int ro])), (q3fi, .inl (cI, 12, .inl fi)), (q3to, .inl (cI, 12, .inl to)), (q1ne, .inl (cI, 8, .inl ne)), (q2, .inr (2, [.ref q3w, .int ac, .int wy, .int fa, .int fp])), (q3w, .inr (3, [.ref q3fiw, .ref q3tow, .int thw, .int hew, .int maw, .int row])), (q3fiw, .inl (cI, 12, .inl fiw)), (q3tow, .inl (cI, 12, .inl tow)), (q4im, .inl (cS, 2, .inr (.inr (.inr (.inr im)))))] sz) := by
  refine kMi (own := RX4) (ty := .int) rfl (by decide) rfl ?_ (Nat.le_of_ble_eq_true rfl)
  intro p e s m args below meth c Q A CF hK hN hA hP hD hret ls hl
  have hS : va_S A s.heap s.heap [] := va_S.rf
  obtain ⟨hx, hb, hml, hown, hts⟩ := id CF
  have hl : lv_has ls 3 [(0, .ref q4), (1, .int v1)] := hl
  unfold m_X4_next at hs
  refine lv_iload_n hx hb dX4_next_0 rfl (lv_at hl 1 rfl) ?_
  refine lv_iconst (v := 0) hx hb dX4_next_1 (by decide) ?_
  refine lv_iconst (v := 1) hx hb dX4_next_2 (by decide) ?_
  refine kpi (va_runS (As := [.int v1, .int (0 : Int32), .int (1 : Int32)]) (rest := []) ⟨hx, hb, hml, hown, hts⟩ (k_X4_isOutside l v1 (0 : Int32) (1 : Int32) _ rfl) (va_cwS 3 hts (kGood (kgS mG_188 mG_12 mG_13 mG_9)) rfl rfl rfl hd_X4_isOutside ⟨Nat.le_of_ble_eq_true rfl, Nat.le_of_ble_eq_true rfl⟩) preEq rfl rfl hl.1 rfl (lv_room (Nat.le_of_ble_eq_true rfl)) dX4_next_3 ⟨Nat.zero_le _, Nat.zero_le _⟩) ?_
  refine lv_if_eq (tgt := 12) hx hb dX4_next_6 (by decide) (fun c_1 => ?_) (fun c_1 => ?_)
  · replace hs := if_p c_1 hs
    refine lv_aload_n hx hb dX4_next_12 rfl (lv_at hl 0 rfl) ?_
    refine va_get (D := (dC, dI)) (ci := 4) (v := .ref q1) (C := RX4) (T := TX4) (N := 4) hx hb hts (fun w h => kg1 (iG_4 w h)) hown hK hP 0 rfl rfl 1 (by decide) (hts _ (kg1 mG_174)) (fun _ h9 => h9) rfl dX4_next_13 ?_
    refine va_get (D := (dC, dI)) (ci := 1) (v := .int ft) (C := RX1) (T := TX1) (N := 4) hx hb hts (fun w h => kg1 (iG_1 w h)) hown hK hP 3 rfl rfl 3 (by decide) (hts _ (kg1 mG_267)) (fun _ h9 => h9) rfl dX4_next_16 ?_
    refine lv_if_ne (tgt := 25) hx hb dX4_next_19 (by decide) (fun c_2 => ?_) (fun c_2 => ?_)
    · replace hs := if_n c_2 hs
      refine lv_aload_n hx hb dX4_next_25 rfl (lv_at hl 0 rfl) ?_
      refine va_get (D := (dC, dI)) (ci := 4) (v := .ref q1) (C := RX4) (T := TX4) (N := 4) hx hb hts (fun w h => kg1 (iG_4 w h)) hown hK hP 0 rfl rfl 1 (by decide) (hts _ (kg1 mG_174)) (fun _ h9 => h9) rfl dX4_next_26 ?_
      refine va_get (D := (dC, dI)) (ci := 1) (v := .int ft) (C := RX1) (T := TX1) (N := 4) hx hb hts (fun w h => kg1 (iG_1 w h)) hown hK hP 3 rfl rfl 3 (by decide) (hts _ (kg1 mG_267)) (fun _ h9 => h9) rfl dX4_next_29 ?_
      obtain ⟨r_3, hc_4, hs⟩ := ob1_e hs
      refine kpi (va_runS (As := [.int ft]) (rest := []) ⟨hx, hb, hml, hown, hts⟩ (k_X4_bestHornToAsk l ft r_3 hc_4) (va_cwS 1 hts (kGood (kgS mG_277 mG_278 mG_13 mG_274)) rfl rfl rfl hd_X4_bestHornToAsk ⟨Nat.le_of_ble_eq_true rfl, Nat.le_of_ble_eq_true rfl⟩) preEq rfl rfl hl.1 rfl (lv_room (Nat.le_of_ble_eq_true rfl)) dX4_next_32 ⟨Nat.zero_le _, Nat.zero_le _⟩) ?_
      refine lv_istore_n (lv' := [(2, .int r_3), (0, .ref q4), (1, .int v1)]) hx hb dX4_next_35 rfl hl (by decide) rfl (fun ls hl => ?_)
      refine lv_iload_n hx hb dX4_next_36 rfl (lv_at hl 2 rfl) ?_
      refine lv_if_ne (tgt := 44) hx hb dX4_next_37 (by decide) (fun c_5 => ?_) (fun c_5 => ?_)
      · replace hs := if_n c_5 hs
        refine lv_aload_n hx hb dX4_next_44 rfl (lv_at hl 1 rfl) ?_
        refine va_get (D := (dC, dI)) (ci := 4) (v := .ref q1) (C := RX4) (T := TX4) (N := 4) hx hb hts (fun w h => kg1 (iG_4 w h)) hown hK hP 0 rfl rfl 1 (by decide) (hts _ (kg1 mG_174)) (fun _ h9 => h9) rfl dX4_next_45 ?_
        refine va_get (D := (dC, dI)) (ci := 1) (v := .int ft) (C := RX1) (T := TX1) (N := 4) hx hb hts (fun w h => kg1 (iG_1 w h)) hown hK hP 3 rfl rfl 3 (by decide) (hts _ (kg1 mG_267)) (fun _ h9 => h9) rfl dX4_next_48 ?_
        refine lv_iload_n hx hb dX4_next_51 rfl (lv_at hl 0 rfl) ?_
        obtain ⟨r_6, hc_7, hs⟩ := ob1_e hs
        refine kpi (va_runS (As := [.int ft, .int r_3]) (rest := []) ⟨hx, hb, hml, hown, hts⟩ (k_X4_mostLeft l ft r_3 r_6 hc_7) (va_cwS 2 hts (kGood (kgS mG_275 mG_276 mG_13 mG_272)) rfl rfl rfl hd_X4_mostLeft ⟨Nat.le_of_ble_eq_true rfl, Nat.le_of_ble_eq_true rfl⟩) preEq rfl rfl hl.1 rfl (lv_room (Nat.le_of_ble_eq_true rfl)) dX4_next_52 ⟨Nat.zero_le _, Nat.zero_le _⟩) ?_
        cases hs
        exact hret _ _ _ _ hP hD hS (vp_nar_int _) dX4_next_55
      · replace hs := if_p c_5 hs
        refine lv_iload_n hx hb dX4_next_40 rfl (lv_at hl 0 rfl) ?_
        refine lv_goto (tgt := 55) hx hb dX4_next_41 (by decide) ?_
        cases hs
        exact hret _ _ _ _ hP hD hS (vp_nar_int _) dX4_next_55
    · replace hs := if_p c_2 hs
      refine lv_bipush (v := -6) hx hb dX4_next_22 (by decide) ?_
      cases hs
      exact hret _ _ _ _ hP hD hS (vp_nar_int _) dX4_next_24
  · replace hs := if_n c_1 hs
    refine lv_bipush (v := -2) hx hb dX4_next_9 (by decide) ?_
    cases hs
    exact hret _ _ _ _ hP hD hS (vp_nar_int _) dX4_next_11
abbrev rm_X4_chain : Room := { frames := 3, cells := 0, slots := 0, locals := 69 }
theorem hd_X4_chain : yX4_chain.cls ≠ "java/lang/invoke/MethodHandle" ∧ yX4_chain.cls ≠ "java/lang/invoke/VarHandle" ∧ (parseMethodDescriptor yX4_chain.desc).map (fun d => d.parameters.length) = some 1 := by decide +kernel
set_option maxHeartbeats 4000000 in
set_option maxRecDepth 100000 in
theorem k_X4_chain (l : Launch) (dC : Nat → ClassId) (dI : Nat → Nat → Nat) (cI cZ cS : ClassId) (q4 q0 q0sg q1 q3 q3fi q3to q1ne q2 q3w q3fiw q3tow q4im : Nat) (sz : Nat) (ct : Int32) (sg : Ar) (si : Int32) (ft : Int32) (th : Int32) (he : Int32) (ma : Int32) (ro : Int32) (fi : Ar) (to : Ar) (ne : Ar) (ac : Int32) (wy : Int32) (fa : Int32) (fp : Int32) (thw : Int32) (hew : Int32) (maw : Int32) (row : Int32) (fiw : Ar) (tow : Ar) (im : Nat → Option Nat) (v1 : Int32) (r0 : Int32) (hs : m_X4_chain v1 ne = some r0) : Met l yX4_chain (.code yX4_chain cX4_chain 2 (some .int) :: kG) rm_X4_chain (va_Pc [.ref q4, .int v1] (kW (dC, dI) cI cZ cS [(q4, .inr (4, [.ref q0, .ref q1, .ref q2, .ref q4im])), (q0, .inr (0, [.ref q0sg, .int ct])), (q0sg, .inl (cI, 60, .inl sg)), (q1, .inr (1, [.ref q3, .ref q1ne, .int si, .int ft])), (q3, .inr (3, [.ref q3fi, .ref q3to, .int th, .int he, .int ma, .int ro])), (q3fi, .inl (cI, 12, .inl fi)), (q3to, .inl (cI, 12, .inl to)), (q1ne, .inl (cI, 8, .inl ne)), (q2, .inr (2, [.ref q3w, .int ac, .int wy, .int fa, .int fp])), (q3w, .inr (3, [.ref q3fiw, .ref q3tow, .int thw, .int hew, .int maw, .int row])), (q3fiw, .inl (cI, 12, .inl fiw)), (q3tow, .inl (cI, 12, .inl tow)), (q4im, .inl (cS, 2, .inr (.inr (.inr (.inr im)))))] sz)) (kQi (dC, dI) [(q4, .inr (4, [.ref q0, .ref q1, .ref q2, .ref q4im])), (q0, .inr (0, [.ref q0sg, .int ct])), (q0sg, .inl (cI, 60, .inl sg)), (q1, .inr (1, [.ref q3, .ref q1ne, .int si, .int ft])), (q3, .inr (3, [.ref q3fi, .ref q3to, .int th, .int he, .int ma, .int ro])), (q3fi, .inl (cI, 12, .inl fi)), (q3to, .inl (cI, 12, .inl to)), (q1ne, .inl (cI, 8, .inl ne)), (q2, .inr (2, [.ref q3w, .int ac, .int wy, .int fa, .int fp])), (q3w, .inr (3, [.ref q3fiw, .ref q3tow, .int thw, .int hew, .int maw, .int row])), (q3fiw, .inl (cI, 12, .inl fiw)), (q3tow, .inl (cI, 12, .inl tow)), (q4im, .inl (cS, 2, .inr (.inr (.inr (.inr im)))))] [(q4, .inr (4, [.ref q0, .ref q1, .ref q2, .ref q4im])), (q0, .inr (0, [.ref q0sg, .int ct])), (q0sg, .inl (cI, 60, .inl sg)), (q1, .inr (1, [.ref q3, .ref q1ne, .int si, .int ft])), (q3, .inr (3, [.ref q3fi, .ref q3to, .int th, .int he, .int ma, .int ro])), (q3fi, .inl (cI, 12, .inl fi)), (q3to, .inl (cI, 12, .inl to)), (q1ne, .inl (cI, 8, .inl ne)), (q2, .inr (2, [.ref q3w, .int ac, .int wy, .int fa, .int fp])), (q3w, .inr (3, [.ref q3fiw, .ref q3tow, .int thw, .int hew, .int maw, .int row])), (q3fiw, .inl (cI, 12, .inl fiw)), (q3tow, .inl (cI, 12, .inl tow)), (q4im, .inl (cS, 2, .inr (.inr (.inr (.inr im)))))] sz r0) 0 0 (va_A [(q4, .inr (4, [.ref q0, .ref q1, .ref q2, .ref q4im])), (q0, .inr (0, [.ref q0sg, .int ct])), (q0sg, .inl (cI, 60, .inl sg)), (q1, .inr (1, [.ref q3, .ref q1ne, .int si, .int ft])), (q3, .inr (3, [.ref q3fi, .ref q3to, .int th, .int he, .int ma, .int ro])), (q3fi, .inl (cI, 12, .inl fi)), (q3to, .inl (cI, 12, .inl to)), (q1ne, .inl (cI, 8, .inl ne)), (q2, .inr (2, [.ref q3w, .int ac, .int wy, .int fa, .int fp])), (q3w, .inr (3, [.ref q3fiw, .ref q3tow, .int thw, .int hew, .int maw, .int row])), (q3fiw, .inl (cI, 12, .inl fiw)), (q3tow, .inl (cI, 12, .inl tow)), (q4im, .inl (cS, 2, .inr (.inr (.inr (.inr im)))))] sz) := by
  refine kMi (own := RX4) (ty := .int) rfl (by decide) rfl ?_ (Nat.le_of_ble_eq_true rfl)
  intro p e s m args below meth c Q A CF hK hN hA hP hD hret ls hl
  have hS : va_S A s.heap s.heap [] := va_S.rf
  obtain ⟨hx, hb, hml, hown, hts⟩ := id CF
  have hl : lv_has ls 2 [(0, .ref q4), (1, .int v1)] := hl
  unfold m_X4_chain at hs
  refine lv_iload_n hx hb dX4_chain_0 rfl (lv_at hl 1 rfl) ?_
  refine lv_iconst (v := 0) hx hb dX4_chain_1 (by decide) ?_
  refine lv_sipush (v := 255) hx hb dX4_chain_2 (by decide) ?_
  refine kpi (va_runS (As := [.int v1, .int (0 : Int32), .int (255 : Int32)]) (rest := []) ⟨hx, hb, hml, hown, hts⟩ (k_X4_isOutside l v1 (0 : Int32) (255 : Int32) _ rfl) (va_cwS 3 hts (kGood (kgS mG_188 mG_12 mG_13 mG_9)) rfl rfl rfl hd_X4_isOutside ⟨Nat.le_of_ble_eq_true rfl, Nat.le_of_ble_eq_true rfl⟩) preEq rfl rfl hl.1 rfl (lv_room (Nat.le_of_ble_eq_true rfl)) dX4_chain_5 ⟨Nat.zero_le _, Nat.zero_le _⟩) ?_
  refine lv_if_eq (tgt := 15) hx hb dX4_chain_8 (by decide) (fun c_1 => ?_) (fun c_1 => ?_)
  · replace hs := if_p c_1 hs
    refine lv_aload_n hx hb dX4_chain_15 rfl (lv_at hl 0 rfl) ?_
    refine va_get (D := (dC, dI)) (ci := 4) (v := .ref q1) (C := RX4) (T := TX4) (N := 4) hx hb hts (fun w h => kg1 (iG_4 w h)) hown hK hP 0 rfl rfl 1 (by decide) (hts _ (kg1 mG_174)) (fun _ h9 => h9) rfl dX4_chain_16 ?_
    refine lv_iload_n hx hb dX4_chain_19 rfl (lv_at hl 1 rfl) ?_
    refine lv_iconst (v := 0) hx hb dX4_chain_20 (by decide) ?_
    obtain ⟨r_2, hc_3, hs⟩ := ob1_e hs
    refine kci (wr := [(q4, .inr (4, [.ref q0, .ref q1, .ref q2, .ref q4im])), (q0, .inr (0, [.ref q0sg, .int ct])), (q0sg, .inl (cI, 60, .inl sg)), (q3, .inr (3, [.ref q3fi, .ref q3to, .int th, .int he, .int ma, .int ro])), (q3fi, .inl (cI, 12, .inl fi)), (q3to, .inl (cI, 12, .inl to)), (q2, .inr (2, [.ref q3w, .int ac, .int wy, .int fa, .int fp])), (q3w, .inr (3, [.ref q3fiw, .ref q3tow, .int thw, .int hew, .int maw, .int row])), (q3fiw, .inl (cI, 12, .inl fiw)), (q3tow, .inl (cI, 12, .inl tow)), (q4im, .inl (cS, 2, .inr (.inr (.inr (.inr im)))))]) (ws' := [(q4, .inr (4, [.ref q0, .ref q1, .ref q2, .ref q4im])), (q0, .inr (0, [.ref q0sg, .int ct])), (q0sg, .inl (cI, 60, .inl sg)), (q1, .inr (1, [.ref q3, .ref q1ne, .int si, .int ft])), (q3, .inr (3, [.ref q3fi, .ref q3to, .int th, .int he, .int ma, .int ro])), (q3fi, .inl (cI, 12, .inl fi)), (q3to, .inl (cI, 12, .inl to)), (q1ne, .inl (cI, 8, .inl ne)), (q2, .inr (2, [.ref q3w, .int ac, .int wy, .int fa, .int fp])), (q3w, .inr (3, [.ref q3fiw, .ref q3tow, .int thw, .int hew, .int maw, .int row])), (q3fiw, .inl (cI, 12, .inl fiw)), (q3tow, .inl (cI, 12, .inl tow)), (q4im, .inl (cS, 2, .inr (.inr (.inr (.inr im)))))]) (va_runV (As := [.int v1, .int (0 : Int32)]) (rest := []) ⟨hx, hb, hml, hown, hts⟩ (k_X1_speakers l dC dI cI cZ cS q1 q1ne q3 s.heap.size si ft ne v1 (0 : Int32) r_2 hc_3) (cwV 2 hts (kGood (kgV mG_281 mG_67 mG_68 mG_64 mG_60)) rfl rfl rfl ⟨rfl, hd_X1_speakers⟩ ⟨Nat.le_of_ble_eq_true rfl, Nat.le_of_ble_eq_true rfl⟩) (kpV hK hN (hP.sub (ws' := [(q1, .inr (1, [.ref q3, .ref q1ne, .int si, .int ft])), (q1ne, .inl (cI, 8, .inl ne))]) [3, 7] rfl) (hD.sub (ws' := [(q1, .inr (1, [.ref q3, .ref q1ne, .int si, .int ft])), (q1ne, .inl (cI, 8, .inl ne))]) [3, 7] rfl rfl) rfl rfl rfl) rfl rfl hl.1 rfl (lv_room (Nat.le_of_ble_eq_true rfl)) dX4_chain_21 ⟨Nat.zero_le _, Nat.zero_le _⟩) hP hD hS hA [3, 7] [0, 1, 2, 4, 5, 6, 8, 9, 10, 11, 12] [0, 1, 2, 11, 3, 4, 5, 12, 6, 7, 8, 9, 10] rfl rfl rfl (by decide) rfl rfl (fun H locs hP hD hS => ?_)
    cases hs
    exact hret _ _ _ _ hP hD hS (vp_nar_int _) dX4_chain_24
  · replace hs := if_n c_1 hs
    refine lv_iconst (v := -1) hx hb dX4_chain_11 (by decide) ?_
    refine lv_goto (tgt := 24) hx hb dX4_chain_12 (by decide) ?_
    cases hs
    exact hret _ _ _ _ hP hD hS (vp_nar_int _) dX4_chain_24
abbrev rm_X4_quiet : Room := { frames := 4, cells := 0, slots := 0, locals := 95 }
theorem hd_X4_quiet : yX4_quiet.cls ≠ "java/lang/invoke/MethodHandle" ∧ yX4_quiet.cls ≠ "java/lang/invoke/VarHandle" ∧ (parseMethodDescriptor yX4_quiet.desc).map (fun d => d.parameters.length) = some 3 := by decide +kernel
set_option maxHeartbeats 4000000 in
set_option maxRecDepth 100000 in
theorem k_X4_quiet (l : Launch) (dC : Nat → ClassId) (dI : Nat → Nat → Nat) (cI cZ cS : ClassId) (q4 q0 q0sg q1 q3 q3fi q3to q1ne q2 q3w q3fiw q3tow q4im : Nat) (sz : Nat) (ct : Int32) (sg : Ar) (si : Int32) (ft : Int32) (th : Int32) (he : Int32) (ma : Int32) (ro : Int32) (fi : Ar) (to : Ar) (ne : Ar) (ac : Int32) (wy : Int32) (fa : Int32) (fp : Int32) (thw : Int32) (hew : Int32) (maw : Int32) (row : Int32) (fiw : Ar) (tow : Ar) (im : Nat → Option Nat) (v1 : Int32) (v2 : Int32) (v3 : Int32) (r0 : Int32) (hs : m_X4_quiet v1 v2 v3 ne = some r0) : Met l yX4_quiet (.code yX4_quiet cX4_quiet 5 (some .int) :: kG) rm_X4_quiet (va_Pc [.ref q4, .int v1, .int v2, .int v3] (kW (dC, dI) cI cZ cS [(q4, .inr (4, [.ref q0, .ref q1, .ref q2, .ref q4im])), (q0, .inr (0, [.ref q0sg, .int ct])), (q0sg, .inl (cI, 60, .inl sg)), (q1, .inr (1, [.ref q3, .ref q1ne, .int si, .int ft])), (q3, .inr (3, [.ref q3fi, .ref q3to, .int th, .int he, .int ma, .int ro])), (q3fi, .inl (cI, 12, .inl fi)), (q3to, .inl (cI, 12, .inl to)), (q1ne, .inl (cI, 8, .inl ne)), (q2, .inr (2, [.ref q3w, .int ac, .int wy, .int fa, .int fp])), (q3w, .inr (3, [.ref q3fiw, .ref q3tow, .int thw, .int hew, .int maw, .int row])), (q3fiw, .inl (cI, 12, .inl fiw)), (q3tow, .inl (cI, 12, .inl tow)), (q4im, .inl (cS, 2, .inr (.inr (.inr (.inr im)))))] sz)) (kQi (dC, dI) [(q4, .inr (4, [.ref q0, .ref q1, .ref q2, .ref q4im])), (q0, .inr (0, [.ref q0sg, .int ct])), (q0sg, .inl (cI, 60, .inl sg)), (q1, .inr (1, [.ref q3, .ref q1ne, .int si, .int ft])), (q3, .inr (3, [.ref q3fi, .ref q3to, .int th, .int he, .int ma, .int ro])), (q3fi, .inl (cI, 12, .inl fi)), (q3to, .inl (cI, 12, .inl to)), (q1ne, .inl (cI, 8, .inl ne)), (q2, .inr (2, [.ref q3w, .int ac, .int wy, .int fa, .int fp])), (q3w, .inr (3, [.ref q3fiw, .ref q3tow, .int thw, .int hew, .int maw, .int row])), (q3fiw, .inl (cI, 12, .inl fiw)), (q3tow, .inl (cI, 12, .inl tow)), (q4im, .inl (cS, 2, .inr (.inr (.inr (.inr im)))))] [(q4, .inr (4, [.ref q0, .ref q1, .ref q2, .ref q4im])), (q0, .inr (0, [.ref q0sg, .int ct])), (q0sg, .inl (cI, 60, .inl sg)), (q1, .inr (1, [.ref q3, .ref q1ne, .int si, .int ft])), (q3, .inr (3, [.ref q3fi, .ref q3to, .int th, .int he, .int ma, .int ro])), (q3fi, .inl (cI, 12, .inl fi)), (q3to, .inl (cI, 12, .inl to)), (q1ne, .inl (cI, 8, .inl ne)), (q2, .inr (2, [.ref q3w, .int ac, .int wy, .int fa, .int fp])), (q3w, .inr (3, [.ref q3fiw, .ref q3tow, .int thw, .int hew, .int maw, .int row])), (q3fiw, .inl (cI, 12, .inl fiw)), (q3tow, .inl (cI, 12, .inl tow)), (q4im, .inl (cS, 2, .inr (.inr (.inr (.inr im)))))] sz r0) 0 0 (va_A [(q4, .inr (4, [.ref q0, .ref q1, .ref q2, .ref q4im])), (q0, .inr (0, [.ref q0sg, .int ct])), (q0sg, .inl (cI, 60, .inl sg)), (q1, .inr (1, [.ref q3, .ref q1ne, .int si, .int ft])), (q3, .inr (3, [.ref q3fi, .ref q3to, .int th, .int he, .int ma, .int ro])), (q3fi, .inl (cI, 12, .inl fi)), (q3to, .inl (cI, 12, .inl to)), (q1ne, .inl (cI, 8, .inl ne)), (q2, .inr (2, [.ref q3w, .int ac, .int wy, .int fa, .int fp])), (q3w, .inr (3, [.ref q3fiw, .ref q3tow, .int thw, .int hew, .int maw, .int row])), (q3fiw, .inl (cI, 12, .inl fiw)), (q3tow, .inl (cI, 12, .inl tow)), (q4im, .inl (cS, 2, .inr (.inr (.inr (.inr im)))))] sz) := by
  refine kMi (own := RX4) (ty := .int) rfl (by decide) rfl ?_ (Nat.le_of_ble_eq_true rfl)
  intro p e s m args below meth c Q A CF hK hN hA hP hD hret ls hl
  have hS : va_S A s.heap s.heap [] := va_S.rf
  obtain ⟨hx, hb, hml, hown, hts⟩ := id CF
  have hl : lv_has ls 5 [(0, .ref q4), (1, .int v1), (2, .int v2), (3, .int v3)] := hl
  unfold m_X4_quiet at hs
  refine lv_iload_n hx hb dX4_quiet_0 rfl (lv_at hl 1 rfl) ?_
  refine lv_iconst (v := 0) hx hb dX4_quiet_1 (by decide) ?_
  refine lv_sipush (v := 255) hx hb dX4_quiet_2 (by decide) ?_
  refine kpi (va_runS (As := [.int v1, .int (0 : Int32), .int (255 : Int32)]) (rest := []) ⟨hx, hb, hml, hown, hts⟩ (k_X4_isOutside l v1 (0 : Int32) (255 : Int32) _ rfl) (va_cwS 3 hts (kGood (kgS mG_188 mG_12 mG_13 mG_9)) rfl rfl rfl hd_X4_isOutside ⟨Nat.le_of_ble_eq_true rfl, Nat.le_of_ble_eq_true rfl⟩) preEq rfl rfl hl.1 rfl (lv_room (Nat.le_of_ble_eq_true rfl)) dX4_quiet_5 ⟨Nat.zero_le _, Nat.zero_le _⟩) ?_
  refine lv_if_eq (tgt := 13) hx hb dX4_quiet_8 (by decide) (fun c_1 => ?_) (fun c_1 => ?_)
  · replace hs := if_p c_1 hs
    refine lv_iload_n hx hb dX4_quiet_13 rfl (lv_at hl 2 rfl) ?_
    refine lv_iconst (v := 0) hx hb dX4_quiet_14 (by decide) ?_
    refine lv_bipush (v := 8) hx hb dX4_quiet_15 (by decide) ?_
    refine kpi (va_runS (As := [.int v2, .int (0 : Int32), .int (8 : Int32)]) (rest := []) ⟨hx, hb, hml, hown, hts⟩ (k_X4_isOutside l v2 (0 : Int32) (8 : Int32) _ rfl) (va_cwS 3 hts (kGood (kgS mG_188 mG_12 mG_13 mG_9)) rfl rfl rfl hd_X4_isOutside ⟨Nat.le_of_ble_eq_true rfl, Nat.le_of_ble_eq_true rfl⟩) preEq rfl rfl hl.1 rfl (lv_room (Nat.le_of_ble_eq_true rfl)) dX4_quiet_17 ⟨Nat.zero_le _, Nat.zero_le _⟩) ?_
    refine lv_if_ne (tgt := 32) hx hb dX4_quiet_20 (by decide) (fun c_2 => ?_) (fun c_2 => ?_)
    · replace hs := if_n c_2 hs
      refine lv_bipush (v := -2) hx hb dX4_quiet_32 (by decide) ?_
      cases hs
      exact hret _ _ _ _ hP hD hS (vp_nar_int _) dX4_quiet_34
    · replace hs := if_p c_2 hs
      refine lv_iload_n hx hb dX4_quiet_23 rfl (lv_at hl 3 rfl) ?_
      refine lv_iconst (v := 0) hx hb dX4_quiet_24 (by decide) ?_
      refine lv_iconst (v := 1) hx hb dX4_quiet_25 (by decide) ?_
      refine kpi (va_runS (As := [.int v3, .int (0 : Int32), .int (1 : Int32)]) (rest := []) ⟨hx, hb, hml, hown, hts⟩ (k_X4_isOutside l v3 (0 : Int32) (1 : Int32) _ rfl) (va_cwS 3 hts (kGood (kgS mG_188 mG_12 mG_13 mG_9)) rfl rfl rfl hd_X4_isOutside ⟨Nat.le_of_ble_eq_true rfl, Nat.le_of_ble_eq_true rfl⟩) preEq rfl rfl hl.1 rfl (lv_room (Nat.le_of_ble_eq_true rfl)) dX4_quiet_26 ⟨Nat.zero_le _, Nat.zero_le _⟩) ?_
      refine lv_if_eq (tgt := 35) hx hb dX4_quiet_29 (by decide) (fun c_3 => ?_) (fun c_3 => ?_)
      · replace hs := if_p c_3 hs
        refine lv_aload_n hx hb dX4_quiet_35 rfl (lv_at hl 0 rfl) ?_
        refine va_get (D := (dC, dI)) (ci := 4) (v := .ref q1) (C := RX4) (T := TX4) (N := 4) hx hb hts (fun w h => kg1 (iG_4 w h)) hown hK hP 0 rfl rfl 1 (by decide) (hts _ (kg1 mG_174)) (fun _ h9 => h9) rfl dX4_quiet_36 ?_
        refine lv_iload_n hx hb dX4_quiet_39 rfl (lv_at hl 1 rfl) ?_
        refine lv_iload_n hx hb dX4_quiet_40 rfl (lv_at hl 2 rfl) ?_
        obtain ⟨r_4, hc_5, hs⟩ := ob1_e hs
        refine kci (wr := [(q4, .inr (4, [.ref q0, .ref q1, .ref q2, .ref q4im])), (q0, .inr (0, [.ref q0sg, .int ct])), (q0sg, .inl (cI, 60, .inl sg)), (q3, .inr (3, [.ref q3fi, .ref q3to, .int th, .int he, .int ma, .int ro])), (q3fi, .inl (cI, 12, .inl fi)), (q3to, .inl (cI, 12, .inl to)), (q2, .inr (2, [.ref q3w, .int ac, .int wy, .int fa, .int fp])), (q3w, .inr (3, [.ref q3fiw, .ref q3tow, .int thw, .int hew, .int maw, .int row])), (q3fiw, .inl (cI, 12, .inl fiw)), (q3tow, .inl (cI, 12, .inl tow)), (q4im, .inl (cS, 2, .inr (.inr (.inr (.inr im)))))]) (ws' := [(q4, .inr (4, [.ref q0, .ref q1, .ref q2, .ref q4im])), (q0, .inr (0, [.ref q0sg, .int ct])), (q0sg, .inl (cI, 60, .inl sg)), (q1, .inr (1, [.ref q3, .ref q1ne, .int si, .int ft])), (q3, .inr (3, [.ref q3fi, .ref q3to, .int th, .int he, .int ma, .int ro])), (q3fi, .inl (cI, 12, .inl fi)), (q3to, .inl (cI, 12, .inl to)), (q1ne, .inl (cI, 8, .inl ne)), (q2, .inr (2, [.ref q3w, .int ac, .int wy, .int fa, .int fp])), (q3w, .inr (3, [.ref q3fiw, .ref q3tow, .int thw, .int hew, .int maw, .int row])), (q3fiw, .inl (cI, 12, .inl fiw)), (q3tow, .inl (cI, 12, .inl tow)), (q4im, .inl (cS, 2, .inr (.inr (.inr (.inr im)))))]) (va_runV (As := [.int v1, .int v2]) (rest := []) ⟨hx, hb, hml, hown, hts⟩ (k_X1_fewestSilent l dC dI cI cZ cS q1 q1ne q3 s.heap.size si ft ne v1 v2 r_4 hc_5) (cwV 2 hts (kGood (kgV mG_282 mG_283 mG_284 mG_64 mG_65)) rfl rfl rfl ⟨rfl, hd_X1_fewestSilent⟩ ⟨Nat.le_of_ble_eq_true rfl, Nat.le_of_ble_eq_true rfl⟩) (kpV hK hN (hP.sub (ws' := [(q1, .inr (1, [.ref q3, .ref q1ne, .int si, .int ft])), (q1ne, .inl (cI, 8, .inl ne))]) [3, 7] rfl) (hD.sub (ws' := [(q1, .inr (1, [.ref q3, .ref q1ne, .int si, .int ft])), (q1ne, .inl (cI, 8, .inl ne))]) [3, 7] rfl rfl) rfl rfl rfl) rfl rfl hl.1 rfl (lv_room (Nat.le_of_ble_eq_true rfl)) dX4_quiet_41 ⟨Nat.zero_le _, Nat.zero_le _⟩) hP hD hS hA [3, 7] [0, 1, 2, 4, 5, 6, 8, 9, 10, 11, 12] [0, 1, 2, 11, 3, 4, 5, 12, 6, 7, 8, 9, 10] rfl rfl rfl (by decide) rfl rfl (fun H locs hP hD hS => ?_)
        refine lv_istore (lv' := [(4, .int r_4), (0, .ref q4), (1, .int v1), (2, .int v2), (3, .int v3)]) hx hb dX4_quiet_44 hl (by decide) rfl (fun ls hl => ?_)
        refine lv_iload_n hx hb dX4_quiet_46 rfl (lv_at hl 4 rfl) ?_
        refine lv_if_ne (tgt := 65) hx hb dX4_quiet_47 (by decide) (fun c_6 => ?_) (fun c_6 => ?_)
        · replace hs := if_n c_6 hs
          refine lv_iload hx hb dX4_quiet_65 (lv_at hl 0 rfl) ?_
          cases hs
          exact hret _ _ _ _ hP hD hS (vp_nar_int _) dX4_quiet_67
        · replace hs := if_p c_6 hs
          refine lv_iload hx hb dX4_quiet_50 (lv_at hl 0 rfl) ?_
          refine lv_bipush (v := -6) hx hb dX4_quiet_52 (by decide) ?_
          refine lv_icmp_eq (tgt := 65) hx hb dX4_quiet_54 (by decide) (fun c_7 => ?_) (fun c_7 => ?_)
          · replace hs := if_p c_7 hs
            refine lv_iload hx hb dX4_quiet_65 (lv_at hl 0 rfl) ?_
            cases hs
            exact hret _ _ _ _ hP hD hS (vp_nar_int _) dX4_quiet_67
          · replace hs := if_n c_7 hs
            refine lv_iload hx hb dX4_quiet_57 (lv_at hl 0 rfl) ?_
            refine kpi (va_runS (As := [.int r_4]) (rest := []) ⟨hx, hb, hml, hown, hts⟩ (k_J6_bitCount_0f7a4 l r_4 _ rfl) (va_cwS 1 hts (kGood (kgS mG_191 mG_58 mG_59 mG_52)) rfl rfl rfl hd_J6_bitCount_0f7a4 ⟨Nat.le_of_ble_eq_true rfl, Nat.le_of_ble_eq_true rfl⟩) preEq rfl rfl hl.1 rfl (lv_room (Nat.le_of_ble_eq_true rfl)) dX4_quiet_59 ⟨Nat.zero_le _, Nat.zero_le _⟩) ?_
            refine lv_goto (tgt := 67) hx hb dX4_quiet_62 (by decide) ?_
            cases hs
            exact hret _ _ _ _ hP hD hS (vp_nar_int _) dX4_quiet_67
      · replace hs := if_n c_3 hs
        refine lv_bipush (v := -2) hx hb dX4_quiet_32 (by decide) ?_
        cases hs
        exact hret _ _ _ _ hP hD hS (vp_nar_int _) dX4_quiet_34
  · replace hs := if_n c_1 hs
    refine lv_iconst (v := -1) hx hb dX4_quiet_11 (by decide) ?_
    cases hs
    exact hret _ _ _ _ hP hD hS (vp_nar_int _) dX4_quiet_12
abbrev rm_X4_water : Room := { frames := 2, cells := 0, slots := 0, locals := 45 }
theorem hd_X4_water : yX4_water.cls ≠ "java/lang/invoke/MethodHandle" ∧ yX4_water.cls ≠ "java/lang/invoke/VarHandle" ∧ (parseMethodDescriptor yX4_water.desc).map (fun d => d.parameters.length) = some 4 := by decide +kernel
set_option maxHeartbeats 4000000 in
set_option maxRecDepth 100000 in
theorem k_X4_water (l : Launch) (dC : Nat → ClassId) (dI : Nat → Nat → Nat) (cI cZ cS : ClassId) (q4 q0 q0sg q1 q3 q3fi q3to q1ne q2 q3w q3fiw q3tow q4im : Nat) (sz : Nat) (ct : Int32) (sg : Ar) (si : Int32) (ft : Int32) (th : Int32) (he : Int32) (ma : Int32) (ro : Int32) (fi : Ar) (to : Ar) (ne : Ar) (ac : Int32) (wy : Int32) (fa : Int32) (fp : Int32) (thw : Int32) (hew : Int32) (maw : Int32) (row : Int32) (fiw : Ar) (tow : Ar) (im : Nat → Option Nat) (v1 : Int32) (v2 : Int32) (v3 : Int32) (v4 : Int32) (r0 : Int64) (hs : m_X4_water v1 v2 v3 v4 = some r0) : Met l yX4_water (.code yX4_water cX4_water 11 (some .long) :: kG) rm_X4_water (va_Pc [.ref q4, .int v1, .int v2, .int v3, .int v4] (kW (dC, dI) cI cZ cS [(q4, .inr (4, [.ref q0, .ref q1, .ref q2, .ref q4im])), (q0, .inr (0, [.ref q0sg, .int ct])), (q0sg, .inl (cI, 60, .inl sg)), (q1, .inr (1, [.ref q3, .ref q1ne, .int si, .int ft])), (q3, .inr (3, [.ref q3fi, .ref q3to, .int th, .int he, .int ma, .int ro])), (q3fi, .inl (cI, 12, .inl fi)), (q3to, .inl (cI, 12, .inl to)), (q1ne, .inl (cI, 8, .inl ne)), (q2, .inr (2, [.ref q3w, .int ac, .int wy, .int fa, .int fp])), (q3w, .inr (3, [.ref q3fiw, .ref q3tow, .int thw, .int hew, .int maw, .int row])), (q3fiw, .inl (cI, 12, .inl fiw)), (q3tow, .inl (cI, 12, .inl tow)), (q4im, .inl (cS, 2, .inr (.inr (.inr (.inr im)))))] sz)) (kQl (dC, dI) [(q4, .inr (4, [.ref q0, .ref q1, .ref q2, .ref q4im])), (q0, .inr (0, [.ref q0sg, .int ct])), (q0sg, .inl (cI, 60, .inl sg)), (q1, .inr (1, [.ref q3, .ref q1ne, .int si, .int ft])), (q3, .inr (3, [.ref q3fi, .ref q3to, .int th, .int he, .int ma, .int ro])), (q3fi, .inl (cI, 12, .inl fi)), (q3to, .inl (cI, 12, .inl to)), (q1ne, .inl (cI, 8, .inl ne)), (q2, .inr (2, [.ref q3w, .int ac, .int wy, .int fa, .int fp])), (q3w, .inr (3, [.ref q3fiw, .ref q3tow, .int thw, .int hew, .int maw, .int row])), (q3fiw, .inl (cI, 12, .inl fiw)), (q3tow, .inl (cI, 12, .inl tow)), (q4im, .inl (cS, 2, .inr (.inr (.inr (.inr im)))))] [(q4, .inr (4, [.ref q0, .ref q1, .ref q2, .ref q4im])), (q0, .inr (0, [.ref q0sg, .int ct])), (q0sg, .inl (cI, 60, .inl sg)), (q1, .inr (1, [.ref q3, .ref q1ne, .int si, .int ft])), (q3, .inr (3, [.ref q3fi, .ref q3to, .int th, .int he, .int ma, .int ro])), (q3fi, .inl (cI, 12, .inl fi)), (q3to, .inl (cI, 12, .inl to)), (q1ne, .inl (cI, 8, .inl ne)), (q2, .inr (2, [.ref q3w, .int ac, .int wy, .int fa, .int fp])), (q3w, .inr (3, [.ref q3fiw, .ref q3tow, .int thw, .int hew, .int maw, .int row])), (q3fiw, .inl (cI, 12, .inl fiw)), (q3tow, .inl (cI, 12, .inl tow)), (q4im, .inl (cS, 2, .inr (.inr (.inr (.inr im)))))] sz r0) 0 0 (va_A [(q4, .inr (4, [.ref q0, .ref q1, .ref q2, .ref q4im])), (q0, .inr (0, [.ref q0sg, .int ct])), (q0sg, .inl (cI, 60, .inl sg)), (q1, .inr (1, [.ref q3, .ref q1ne, .int si, .int ft])), (q3, .inr (3, [.ref q3fi, .ref q3to, .int th, .int he, .int ma, .int ro])), (q3fi, .inl (cI, 12, .inl fi)), (q3to, .inl (cI, 12, .inl to)), (q1ne, .inl (cI, 8, .inl ne)), (q2, .inr (2, [.ref q3w, .int ac, .int wy, .int fa, .int fp])), (q3w, .inr (3, [.ref q3fiw, .ref q3tow, .int thw, .int hew, .int maw, .int row])), (q3fiw, .inl (cI, 12, .inl fiw)), (q3tow, .inl (cI, 12, .inl tow)), (q4im, .inl (cS, 2, .inr (.inr (.inr (.inr im)))))] sz) := by
  refine kMl (own := RX4) rfl (by decide) rfl ?_ (Nat.le_of_ble_eq_true rfl)
  intro p e s m args below meth c Q A CF hK hN hA hP hD hret ls hl
  have hS : va_S A s.heap s.heap [] := va_S.rf
  obtain ⟨hx, hb, hml, hown, hts⟩ := id CF
  have hl : lv_has ls 11 [(0, .ref q4), (1, .int v1), (2, .int v2), (3, .int v3), (4, .int v4)] := hl
  unfold m_X4_water at hs
  refine lv_iload_n hx hb dX4_water_0 rfl (lv_at hl 1 rfl) ?_
  refine lv_iconst (v := 0) hx hb dX4_water_1 (by decide) ?_
  refine lv_bipush (v := 9) hx hb dX4_water_2 (by decide) ?_
  refine kpi (va_runS (As := [.int v1, .int (0 : Int32), .int (9 : Int32)]) (rest := []) ⟨hx, hb, hml, hown, hts⟩ (k_X4_isOutside l v1 (0 : Int32) (9 : Int32) _ rfl) (va_cwS 3 hts (kGood (kgS mG_188 mG_12 mG_13 mG_9)) rfl rfl rfl hd_X4_isOutside ⟨Nat.le_of_ble_eq_true rfl, Nat.le_of_ble_eq_true rfl⟩) preEq rfl rfl hl.1 rfl (lv_room (Nat.le_of_ble_eq_true rfl)) dX4_water_4 ⟨Nat.zero_le _, Nat.zero_le _⟩) ?_
  refine lv_if_ne (tgt := 39) hx hb dX4_water_7 (by decide) (fun c_1 => ?_) (fun c_1 => ?_)
  · replace hs := if_n c_1 hs
    refine lv_ldc2 (v := -1000000000000000002) hx hb hown (hts _ (kg1 mG_293)) dX4_water_39 ?_
    cases hs
    exact hret _ _ _ _ hP hD hS dX4_water_42
  · replace hs := if_p c_1 hs
    refine lv_iload_n hx hb dX4_water_10 rfl (lv_at hl 2 rfl) ?_
    refine lv_iconst (v := 0) hx hb dX4_water_11 (by decide) ?_
    refine lv_bipush (v := 10) hx hb dX4_water_12 (by decide) ?_
    refine kpi (va_runS (As := [.int v2, .int (0 : Int32), .int (10 : Int32)]) (rest := []) ⟨hx, hb, hml, hown, hts⟩ (k_X4_isOutside l v2 (0 : Int32) (10 : Int32) _ rfl) (va_cwS 3 hts (kGood (kgS mG_188 mG_12 mG_13 mG_9)) rfl rfl rfl hd_X4_isOutside ⟨Nat.le_of_ble_eq_true rfl, Nat.le_of_ble_eq_true rfl⟩) preEq rfl rfl hl.1 rfl (lv_room (Nat.le_of_ble_eq_true rfl)) dX4_water_14 ⟨Nat.zero_le _, Nat.zero_le _⟩) ?_
    refine lv_if_ne (tgt := 39) hx hb dX4_water_17 (by decide) (fun c_2 => ?_) (fun c_2 => ?_)
    · replace hs := if_n c_2 hs
      refine lv_ldc2 (v := -1000000000000000002) hx hb hown (hts _ (kg1 mG_293)) dX4_water_39 ?_
      cases hs
      exact hret _ _ _ _ hP hD hS dX4_water_42
    · replace hs := if_p c_2 hs
      refine lv_iload_n hx hb dX4_water_20 rfl (lv_at hl 3 rfl) ?_
      refine lv_iconst (v := 0) hx hb dX4_water_21 (by decide) ?_
      refine lv_iconst (v := 1) hx hb dX4_water_22 (by decide) ?_
      refine kpi (va_runS (As := [.int v3, .int (0 : Int32), .int (1 : Int32)]) (rest := []) ⟨hx, hb, hml, hown, hts⟩ (k_X4_isOutside l v3 (0 : Int32) (1 : Int32) _ rfl) (va_cwS 3 hts (kGood (kgS mG_188 mG_12 mG_13 mG_9)) rfl rfl rfl hd_X4_isOutside ⟨Nat.le_of_ble_eq_true rfl, Nat.le_of_ble_eq_true rfl⟩) preEq rfl rfl hl.1 rfl (lv_room (Nat.le_of_ble_eq_true rfl)) dX4_water_23 ⟨Nat.zero_le _, Nat.zero_le _⟩) ?_
      refine lv_if_ne (tgt := 39) hx hb dX4_water_26 (by decide) (fun c_3 => ?_) (fun c_3 => ?_)
      · replace hs := if_n c_3 hs
        refine lv_ldc2 (v := -1000000000000000002) hx hb hown (hts _ (kg1 mG_293)) dX4_water_39 ?_
        cases hs
        exact hret _ _ _ _ hP hD hS dX4_water_42
      · replace hs := if_p c_3 hs
        refine lv_iload hx hb dX4_water_29 (lv_at hl 4 rfl) ?_
        refine lv_iconst (v := 0) hx hb dX4_water_31 (by decide) ?_
        refine lv_iconst (v := 1) hx hb dX4_water_32 (by decide) ?_
        refine kpi (va_runS (As := [.int v4, .int (0 : Int32), .int (1 : Int32)]) (rest := []) ⟨hx, hb, hml, hown, hts⟩ (k_X4_isOutside l v4 (0 : Int32) (1 : Int32) _ rfl) (va_cwS 3 hts (kGood (kgS mG_188 mG_12 mG_13 mG_9)) rfl rfl rfl hd_X4_isOutside ⟨Nat.le_of_ble_eq_true rfl, Nat.le_of_ble_eq_true rfl⟩) preEq rfl rfl hl.1 rfl (lv_room (Nat.le_of_ble_eq_true rfl)) dX4_water_33 ⟨Nat.zero_le _, Nat.zero_le _⟩) ?_
        refine lv_if_eq (tgt := 43) hx hb dX4_water_36 (by decide) (fun c_4 => ?_) (fun c_4 => ?_)
        · replace hs := if_p c_4 hs
          refine lv_iload_n hx hb dX4_water_43 rfl (lv_at hl 1 rfl) ?_
          obtain ⟨r_5, hc_6, hs⟩ := ob1_e hs
          refine kpi (va_runS (As := [.int v1]) (rest := []) ⟨hx, hb, hml, hown, hts⟩ (k_X4_powerOfTen l v1 r_5 hc_6) (va_cwS 1 hts (kGood (kgS mG_294 mG_160 mG_13 mG_154)) rfl rfl rfl hd_X4_powerOfTen ⟨Nat.le_of_ble_eq_true rfl, Nat.le_of_ble_eq_true rfl⟩) preEq rfl rfl hl.1 rfl (lv_room (Nat.le_of_ble_eq_true rfl)) dX4_water_44 ⟨Nat.zero_le _, Nat.zero_le _⟩) ?_
          refine lv_i2l hx hb dX4_water_47 rfl ?_
          refine lv_lstore (lv' := [(5, .long (Int32.toInt64 r_5)), (0, .ref q4), (1, .int v1), (2, .int v2), (3, .int v3), (4, .int v4)]) hx hb dX4_water_48 hl (by decide) rfl (fun ls hl => ?_)
          refine lv_iload_n hx hb dX4_water_50 rfl (lv_at hl 2 rfl) ?_
          refine lv_iload_n hx hb dX4_water_51 rfl (lv_at hl 3 rfl) ?_
          obtain ⟨r_7, hc_8, hs⟩ := ob1_e hs
          refine kpl (va_runS (As := [.int v1, .int v2]) (rest := []) ⟨hx, hb, hml, hown, hts⟩ (k_X4_keptInTheMean l v1 v2 r_7 hc_8) (va_cwS 2 hts (kGood (kgS mG_295 mG_296 mG_13 mG_286)) rfl rfl rfl hd_X4_keptInTheMean ⟨Nat.le_of_ble_eq_true rfl, Nat.le_of_ble_eq_true rfl⟩) preEq rfl rfl hl.1 rfl (lv_room (Nat.le_of_ble_eq_true rfl)) dX4_water_52 ⟨Nat.zero_le _, Nat.zero_le _⟩) ?_
          refine lv_lstore (lv' := [(7, .long r_7), (5, .long (Int32.toInt64 r_5)), (0, .ref q4), (1, .int v1), (2, .int v2), (3, .int v3), (4, .int v4)]) hx hb dX4_water_55 hl (by decide) rfl (fun ls hl => ?_)
          refine lv_iload_n hx hb dX4_water_57 rfl (lv_at hl 5 rfl) ?_
          refine lv_iconst (v := 1) hx hb dX4_water_58 (by decide) ?_
          refine lv_icmp_ne (tgt := 82) hx hb dX4_water_59 (by decide) (fun c_9 => ?_) (fun c_9 => ?_)
          · replace hs := if_n c_9 hs
            refine lv_lload hx hb dX4_water_82 (lv_at hl 1 rfl) ?_
            refine lv_lload hx hb dX4_water_84 (lv_at hl 0 rfl) ?_
            obtain ⟨r_10, hc_11, hs⟩ := ob1_e hs
            refine kpl (va_runS (As := [.long (Int32.toInt64 r_5), .long r_7]) (rest := []) ⟨hx, hb, hml, hown, hts⟩ (k_X4_commonDivisor l (Int32.toInt64 r_5) r_7 r_10 hc_11) (va_cwS 2 hts (kGood (kgS mG_297 mG_298 mG_13 mG_291)) rfl rfl rfl hd_X4_commonDivisor ⟨Nat.le_of_ble_eq_true rfl, Nat.le_of_ble_eq_true rfl⟩) preEq rfl rfl hl.1 rfl (lv_room (Nat.le_of_ble_eq_true rfl)) dX4_water_86 ⟨Nat.zero_le _, Nat.zero_le _⟩) ?_
            refine lv_lstore (lv' := [(9, .long r_10), (7, .long r_7), (5, .long (Int32.toInt64 r_5)), (0, .ref q4), (1, .int v1), (2, .int v2), (3, .int v3), (4, .int v4)]) hx hb dX4_water_89 hl (by decide) rfl (fun ls hl => ?_)
            refine lv_iload hx hb dX4_water_91 (lv_at hl 7 rfl) ?_
            refine lv_if_ne (tgt := 101) hx hb dX4_water_93 (by decide) (fun c_12 => ?_) (fun c_12 => ?_)
            · replace hs := if_n c_12 hs
              refine lv_lload hx hb dX4_water_101 (lv_at hl 2 rfl) ?_
              refine lv_lload hx hb dX4_water_103 (lv_at hl 0 rfl) ?_
              obtain ⟨hg_13, hs⟩ := gd_e hs
              refine lv_ldiv hx hb dX4_water_105 (nzl_e hg_13) ?_
              cases hs
              exact hret _ _ _ _ hP hD hS dX4_water_106
            · replace hs := if_p c_12 hs
              refine lv_lload hx hb dX4_water_96 (lv_at hl 1 rfl) ?_
              refine lv_goto (tgt := 103) hx hb dX4_water_98 (by decide) ?_
              refine lv_lload hx hb dX4_water_103 (lv_at hl 0 rfl) ?_
              obtain ⟨hg_14, hs⟩ := gd_e hs
              refine lv_ldiv hx hb dX4_water_105 (nzl_e hg_14) ?_
              cases hs
              exact hret _ _ _ _ hP hD hS dX4_water_106
          · replace hs := if_p c_9 hs
            refine lv_lload hx hb dX4_water_62 (lv_at hl 0 rfl) ?_
            refine lv_bipush (v := 10) hx hb dX4_water_64 (by decide) ?_
            refine lv_iload_n hx hb dX4_water_66 rfl (lv_at hl 3 rfl) ?_
            refine lv_imul hx hb dX4_water_67 ?_
            refine lv_i2l hx hb dX4_water_68 rfl ?_
            refine lv_lload hx hb dX4_water_69 (lv_at hl 1 rfl) ?_
            refine lv_lmul hx hb dX4_water_71 ?_
            refine W.lcmp hx hb dX4_water_72 ?_
            refine lv_if_ne (tgt := 80) hx hb dX4_water_73 (by decide) (fun c_15 => ?_) (fun c_15 => ?_)
            · replace hs := if_n c_15 hs
              refine lv_lconst (v := 0) hx hb dX4_water_80 (by decide) ?_
              cases hs
              exact hret _ _ _ _ hP hD hS dX4_water_81
            · replace hs := if_p c_15 hs
              refine lv_lconst (v := 1) hx hb dX4_water_76 (by decide) ?_
              refine lv_goto (tgt := 81) hx hb dX4_water_77 (by decide) ?_
              cases hs
              exact hret _ _ _ _ hP hD hS dX4_water_81
        · replace hs := if_n c_4 hs
          refine lv_ldc2 (v := -1000000000000000002) hx hb hown (hts _ (kg1 mG_293)) dX4_water_39 ?_
          cases hs
          exact hret _ _ _ _ hP hD hS dX4_water_42
abbrev rm_X4_lots : Room := { frames := 1, cells := 0, slots := 0, locals := 22 }
theorem hd_X4_lots : yX4_lots.cls ≠ "java/lang/invoke/MethodHandle" ∧ yX4_lots.cls ≠ "java/lang/invoke/VarHandle" ∧ (parseMethodDescriptor yX4_lots.desc).map (fun d => d.parameters.length) = some 4 := by decide +kernel
set_option maxHeartbeats 4000000 in
set_option maxRecDepth 100000 in
theorem k_X4_lots (l : Launch) (dC : Nat → ClassId) (dI : Nat → Nat → Nat) (cI cZ cS : ClassId) (q4 q0 q0sg q1 q3 q3fi q3to q1ne q2 q3w q3fiw q3tow q4im : Nat) (sz : Nat) (ct : Int32) (sg : Ar) (si : Int32) (ft : Int32) (th : Int32) (he : Int32) (ma : Int32) (ro : Int32) (fi : Ar) (to : Ar) (ne : Ar) (ac : Int32) (wy : Int32) (fa : Int32) (fp : Int32) (thw : Int32) (hew : Int32) (maw : Int32) (row : Int32) (fiw : Ar) (tow : Ar) (im : Nat → Option Nat) (v1 : Int32) (v2 : Int32) (v3 : Int32) (v4 : Int32) (r0 : Int32) (hs : m_X4_lots v1 v2 v3 v4 = some r0) : Met l yX4_lots (.code yX4_lots cX4_lots 5 (some .int) :: kG) rm_X4_lots (va_Pc [.ref q4, .int v1, .int v2, .int v3, .int v4] (kW (dC, dI) cI cZ cS [(q4, .inr (4, [.ref q0, .ref q1, .ref q2, .ref q4im])), (q0, .inr (0, [.ref q0sg, .int ct])), (q0sg, .inl (cI, 60, .inl sg)), (q1, .inr (1, [.ref q3, .ref q1ne, .int si, .int ft])), (q3, .inr (3, [.ref q3fi, .ref q3to, .int th, .int he, .int ma, .int ro])), (q3fi, .inl (cI, 12, .inl fi)), (q3to, .inl (cI, 12, .inl to)), (q1ne, .inl (cI, 8, .inl ne)), (q2, .inr (2, [.ref q3w, .int ac, .int wy, .int fa, .int fp])), (q3w, .inr (3, [.ref q3fiw, .ref q3tow, .int thw, .int hew, .int maw, .int row])), (q3fiw, .inl (cI, 12, .inl fiw)), (q3tow, .inl (cI, 12, .inl tow)), (q4im, .inl (cS, 2, .inr (.inr (.inr (.inr im)))))] sz)) (kQi (dC, dI) [(q4, .inr (4, [.ref q0, .ref q1, .ref q2, .ref q4im])), (q0, .inr (0, [.ref q0sg, .int ct])), (q0sg, .inl (cI, 60, .inl sg)), (q1, .inr (1, [.ref q3, .ref q1ne, .int si, .int ft])), (q3, .inr (3, [.ref q3fi, .ref q3to, .int th, .int he, .int ma, .int ro])), (q3fi, .inl (cI, 12, .inl fi)), (q3to, .inl (cI, 12, .inl to)), (q1ne, .inl (cI, 8, .inl ne)), (q2, .inr (2, [.ref q3w, .int ac, .int wy, .int fa, .int fp])), (q3w, .inr (3, [.ref q3fiw, .ref q3tow, .int thw, .int hew, .int maw, .int row])), (q3fiw, .inl (cI, 12, .inl fiw)), (q3tow, .inl (cI, 12, .inl tow)), (q4im, .inl (cS, 2, .inr (.inr (.inr (.inr im)))))] [(q4, .inr (4, [.ref q0, .ref q1, .ref q2, .ref q4im])), (q0, .inr (0, [.ref q0sg, .int ct])), (q0sg, .inl (cI, 60, .inl sg)), (q1, .inr (1, [.ref q3, .ref q1ne, .int si, .int ft])), (q3, .inr (3, [.ref q3fi, .ref q3to, .int th, .int he, .int ma, .int ro])), (q3fi, .inl (cI, 12, .inl fi)), (q3to, .inl (cI, 12, .inl to)), (q1ne, .inl (cI, 8, .inl ne)), (q2, .inr (2, [.ref q3w, .int ac, .int wy, .int fa, .int fp])), (q3w, .inr (3, [.ref q3fiw, .ref q3tow, .int thw, .int hew, .int maw, .int row])), (q3fiw, .inl (cI, 12, .inl fiw)), (q3tow, .inl (cI, 12, .inl tow)), (q4im, .inl (cS, 2, .inr (.inr (.inr (.inr im)))))] sz r0) 0 0 (va_A [(q4, .inr (4, [.ref q0, .ref q1, .ref q2, .ref q4im])), (q0, .inr (0, [.ref q0sg, .int ct])), (q0sg, .inl (cI, 60, .inl sg)), (q1, .inr (1, [.ref q3, .ref q1ne, .int si, .int ft])), (q3, .inr (3, [.ref q3fi, .ref q3to, .int th, .int he, .int ma, .int ro])), (q3fi, .inl (cI, 12, .inl fi)), (q3to, .inl (cI, 12, .inl to)), (q1ne, .inl (cI, 8, .inl ne)), (q2, .inr (2, [.ref q3w, .int ac, .int wy, .int fa, .int fp])), (q3w, .inr (3, [.ref q3fiw, .ref q3tow, .int thw, .int hew, .int maw, .int row])), (q3fiw, .inl (cI, 12, .inl fiw)), (q3tow, .inl (cI, 12, .inl tow)), (q4im, .inl (cS, 2, .inr (.inr (.inr (.inr im)))))] sz) := by
  refine kMi (own := RX4) (ty := .int) rfl (by decide) rfl ?_ (Nat.le_of_ble_eq_true rfl)
  intro p e s m args below meth c Q A CF hK hN hA hP hD hret ls hl
  have hS : va_S A s.heap s.heap [] := va_S.rf
  obtain ⟨hx, hb, hml, hown, hts⟩ := id CF
  have hl : lv_has ls 5 [(0, .ref q4), (1, .int v1), (2, .int v2), (3, .int v3), (4, .int v4)] := hl
  unfold m_X4_lots at hs
  refine lv_iload_n hx hb dX4_lots_0 rfl (lv_at hl 1 rfl) ?_
  refine lv_iconst (v := 1) hx hb dX4_lots_1 (by decide) ?_
  refine lv_bipush (v := 20) hx hb dX4_lots_2 (by decide) ?_
  refine kpi (va_runS (As := [.int v1, .int (1 : Int32), .int (20 : Int32)]) (rest := []) ⟨hx, hb, hml, hown, hts⟩ (k_X4_isOutside l v1 (1 : Int32) (20 : Int32) _ rfl) (va_cwS 3 hts (kGood (kgS mG_188 mG_12 mG_13 mG_9)) rfl rfl rfl hd_X4_isOutside ⟨Nat.le_of_ble_eq_true rfl, Nat.le_of_ble_eq_true rfl⟩) preEq rfl rfl hl.1 rfl (lv_room (Nat.le_of_ble_eq_true rfl)) dX4_lots_4 ⟨Nat.zero_le _, Nat.zero_le _⟩) ?_
  refine lv_if_ne (tgt := 40) hx hb dX4_lots_7 (by decide) (fun c_1 => ?_) (fun c_1 => ?_)
  · replace hs := if_n c_1 hs
    refine lv_bipush (v := -2) hx hb dX4_lots_40 (by decide) ?_
    cases hs
    exact hret _ _ _ _ hP hD hS (vp_nar_int _) dX4_lots_42
  · replace hs := if_p c_1 hs
    refine lv_iload_n hx hb dX4_lots_10 rfl (lv_at hl 2 rfl) ?_
    refine lv_iconst (v := 1) hx hb dX4_lots_11 (by decide) ?_
    refine lv_bipush (v := 20) hx hb dX4_lots_12 (by decide) ?_
    refine kpi (va_runS (As := [.int v2, .int (1 : Int32), .int (20 : Int32)]) (rest := []) ⟨hx, hb, hml, hown, hts⟩ (k_X4_isOutside l v2 (1 : Int32) (20 : Int32) _ rfl) (va_cwS 3 hts (kGood (kgS mG_188 mG_12 mG_13 mG_9)) rfl rfl rfl hd_X4_isOutside ⟨Nat.le_of_ble_eq_true rfl, Nat.le_of_ble_eq_true rfl⟩) preEq rfl rfl hl.1 rfl (lv_room (Nat.le_of_ble_eq_true rfl)) dX4_lots_14 ⟨Nat.zero_le _, Nat.zero_le _⟩) ?_
    refine lv_if_ne (tgt := 40) hx hb dX4_lots_17 (by decide) (fun c_2 => ?_) (fun c_2 => ?_)
    · replace hs := if_n c_2 hs
      refine lv_bipush (v := -2) hx hb dX4_lots_40 (by decide) ?_
      cases hs
      exact hret _ _ _ _ hP hD hS (vp_nar_int _) dX4_lots_42
    · replace hs := if_p c_2 hs
      refine lv_iload_n hx hb dX4_lots_20 rfl (lv_at hl 3 rfl) ?_
      refine lv_iconst (v := 1) hx hb dX4_lots_21 (by decide) ?_
      refine lv_bipush (v := 20) hx hb dX4_lots_22 (by decide) ?_
      refine kpi (va_runS (As := [.int v3, .int (1 : Int32), .int (20 : Int32)]) (rest := []) ⟨hx, hb, hml, hown, hts⟩ (k_X4_isOutside l v3 (1 : Int32) (20 : Int32) _ rfl) (va_cwS 3 hts (kGood (kgS mG_188 mG_12 mG_13 mG_9)) rfl rfl rfl hd_X4_isOutside ⟨Nat.le_of_ble_eq_true rfl, Nat.le_of_ble_eq_true rfl⟩) preEq rfl rfl hl.1 rfl (lv_room (Nat.le_of_ble_eq_true rfl)) dX4_lots_24 ⟨Nat.zero_le _, Nat.zero_le _⟩) ?_
      refine lv_if_ne (tgt := 40) hx hb dX4_lots_27 (by decide) (fun c_3 => ?_) (fun c_3 => ?_)
      · replace hs := if_n c_3 hs
        refine lv_bipush (v := -2) hx hb dX4_lots_40 (by decide) ?_
        cases hs
        exact hret _ _ _ _ hP hD hS (vp_nar_int _) dX4_lots_42
      · replace hs := if_p c_3 hs
        refine lv_iload hx hb dX4_lots_30 (lv_at hl 4 rfl) ?_
        refine lv_iconst (v := 0) hx hb dX4_lots_32 (by decide) ?_
        refine lv_iconst (v := 1) hx hb dX4_lots_33 (by decide) ?_
        refine kpi (va_runS (As := [.int v4, .int (0 : Int32), .int (1 : Int32)]) (rest := []) ⟨hx, hb, hml, hown, hts⟩ (k_X4_isOutside l v4 (0 : Int32) (1 : Int32) _ rfl) (va_cwS 3 hts (kGood (kgS mG_188 mG_12 mG_13 mG_9)) rfl rfl rfl hd_X4_isOutside ⟨Nat.le_of_ble_eq_true rfl, Nat.le_of_ble_eq_true rfl⟩) preEq rfl rfl hl.1 rfl (lv_room (Nat.le_of_ble_eq_true rfl)) dX4_lots_34 ⟨Nat.zero_le _, Nat.zero_le _⟩) ?_
        refine lv_if_eq (tgt := 43) hx hb dX4_lots_37 (by decide) (fun c_4 => ?_) (fun c_4 => ?_)
        · replace hs := if_p c_4 hs
          refine lv_iload hx hb dX4_lots_43 (lv_at hl 4 rfl) ?_
          refine lv_if_ne (tgt := 59) hx hb dX4_lots_45 (by decide) (fun c_5 => ?_) (fun c_5 => ?_)
          · replace hs := if_n c_5 hs
            refine lv_iload_n hx hb dX4_lots_59 rfl (lv_at hl 1 rfl) ?_
            obtain ⟨r_6, hc_7, hs⟩ := ob1_e hs
            refine kpi (va_runS (As := [.int v1]) (rest := []) ⟨hx, hb, hml, hown, hts⟩ (k_X4_lotsAmong l v1 r_6 hc_7) (va_cwS 1 hts (kGood (kgS mG_301 mG_302 mG_13 mG_299)) rfl rfl rfl hd_X4_lotsAmong ⟨Nat.le_of_ble_eq_true rfl, Nat.le_of_ble_eq_true rfl⟩) preEq rfl rfl hl.1 rfl (lv_room (Nat.le_of_ble_eq_true rfl)) dX4_lots_60 ⟨Nat.zero_le _, Nat.zero_le _⟩) ?_
            refine lv_iload_n hx hb dX4_lots_63 rfl (lv_at hl 2 rfl) ?_
            obtain ⟨r_8, hc_9, hs⟩ := ob1_e hs
            refine kpi (va_runS (As := [.int v2]) (rest := [.int r_6]) ⟨hx, hb, hml, hown, hts⟩ (k_X4_lotsAmong l v2 r_8 hc_9) (va_cwS 1 hts (kGood (kgS mG_301 mG_302 mG_13 mG_299)) rfl rfl rfl hd_X4_lotsAmong ⟨Nat.le_of_ble_eq_true rfl, Nat.le_of_ble_eq_true rfl⟩) preEq rfl rfl hl.1 rfl (lv_room (Nat.le_of_ble_eq_true rfl)) dX4_lots_64 ⟨Nat.zero_le _, Nat.zero_le _⟩) ?_
            refine lv_iadd hx hb dX4_lots_67 ?_
            refine lv_iload_n hx hb dX4_lots_68 rfl (lv_at hl 3 rfl) ?_
            obtain ⟨r_10, hc_11, hs⟩ := ob1_e hs
            refine kpi (va_runS (As := [.int v3]) (rest := [.int (r_6 + r_8)]) ⟨hx, hb, hml, hown, hts⟩ (k_X4_lotsAmong l v3 r_10 hc_11) (va_cwS 1 hts (kGood (kgS mG_301 mG_302 mG_13 mG_299)) rfl rfl rfl hd_X4_lotsAmong ⟨Nat.le_of_ble_eq_true rfl, Nat.le_of_ble_eq_true rfl⟩) preEq rfl rfl hl.1 rfl (lv_room (Nat.le_of_ble_eq_true rfl)) dX4_lots_69 ⟨Nat.zero_le _, Nat.zero_le _⟩) ?_
            refine lv_iadd hx hb dX4_lots_72 ?_
            cases hs
            exact hret _ _ _ _ hP hD hS (vp_nar_int _) dX4_lots_73
          · replace hs := if_p c_5 hs
            refine lv_iload_n hx hb dX4_lots_48 rfl (lv_at hl 1 rfl) ?_
            refine lv_iload_n hx hb dX4_lots_49 rfl (lv_at hl 2 rfl) ?_
            refine lv_imul hx hb dX4_lots_50 ?_
            refine lv_iload_n hx hb dX4_lots_51 rfl (lv_at hl 3 rfl) ?_
            refine lv_imul hx hb dX4_lots_52 ?_
            obtain ⟨r_12, hc_13, hs⟩ := ob1_e hs
            refine kpi (va_runS (As := [.int ((v1 * v2) * v3)]) (rest := []) ⟨hx, hb, hml, hown, hts⟩ (k_X4_lotsAmong l ((v1 * v2) * v3) r_12 hc_13) (va_cwS 1 hts (kGood (kgS mG_301 mG_302 mG_13 mG_299)) rfl rfl rfl hd_X4_lotsAmong ⟨Nat.le_of_ble_eq_true rfl, Nat.le_of_ble_eq_true rfl⟩) preEq rfl rfl hl.1 rfl (lv_room (Nat.le_of_ble_eq_true rfl)) dX4_lots_53 ⟨Nat.zero_le _, Nat.zero_le _⟩) ?_
            refine lv_goto (tgt := 73) hx hb dX4_lots_56 (by decide) ?_
            cases hs
            exact hret _ _ _ _ hP hD hS (vp_nar_int _) dX4_lots_73
        · replace hs := if_n c_4 hs
          refine lv_bipush (v := -2) hx hb dX4_lots_40 (by decide) ?_
          cases hs
          exact hret _ _ _ _ hP hD hS (vp_nar_int _) dX4_lots_42
abbrev rm_X4_day : Room := { frames := 5, cells := 0, slots := 0, locals := 111 }
theorem hd_X4_day : yX4_day.cls ≠ "java/lang/invoke/MethodHandle" ∧ yX4_day.cls ≠ "java/lang/invoke/VarHandle" ∧ (parseMethodDescriptor yX4_day.desc).map (fun d => d.parameters.length) = some 3 := by decide +kernel
set_option maxHeartbeats 4000000 in
set_option maxRecDepth 100000 in
theorem k_X4_day (l : Launch) (dC : Nat → ClassId) (dI : Nat → Nat → Nat) (cI cZ cS : ClassId) (q4 q0 q0sg q1 q3 q3fi q3to q1ne q2 q3w q3fiw q3tow q4im : Nat) (sz : Nat) (ct : Int32) (sg : Ar) (si : Int32) (ft : Int32) (th : Int32) (he : Int32) (ma : Int32) (ro : Int32) (fi : Ar) (to : Ar) (ne : Ar) (ac : Int32) (wy : Int32) (fa : Int32) (fp : Int32) (thw : Int32) (hew : Int32) (maw : Int32) (row : Int32) (fiw : Ar) (tow : Ar) (im : Nat → Option Nat) (v1 : Int32) (v2 : Int32) (v3 : Int32) (r0 : Int32) (thw_o : Int32) (hew_o : Int32) (maw_o : Int32) (row_o : Int32) (fiw_o : Ar) (tow_o : Ar) (hs : m_X4_day v1 v2 v3 th he ma ro fi to thw hew maw row fiw tow = some (r0, thw_o, hew_o, maw_o, row_o, fiw_o, tow_o)) : Met l yX4_day (.code yX4_day cX4_day 5 (some .int) :: kG) rm_X4_day (va_Pc [.ref q4, .int v1, .int v2, .int v3] (kW (dC, dI) cI cZ cS [(q4, .inr (4, [.ref q0, .ref q1, .ref q2, .ref q4im])), (q0, .inr (0, [.ref q0sg, .int ct])), (q0sg, .inl (cI, 60, .inl sg)), (q1, .inr (1, [.ref q3, .ref q1ne, .int si, .int ft])), (q3, .inr (3, [.ref q3fi, .ref q3to, .int th, .int he, .int ma, .int ro])), (q3fi, .inl (cI, 12, .inl fi)), (q3to, .inl (cI, 12, .inl to)), (q1ne, .inl (cI, 8, .inl ne)), (q2, .inr (2, [.ref q3w, .int ac, .int wy, .int fa, .int fp])), (q3w, .inr (3, [.ref q3fiw, .ref q3tow, .int thw, .int hew, .int maw, .int row])), (q3fiw, .inl (cI, 12, .inl fiw)), (q3tow, .inl (cI, 12, .inl tow)), (q4im, .inl (cS, 2, .inr (.inr (.inr (.inr im)))))] sz)) (kQi (dC, dI) [(q4, .inr (4, [.ref q0, .ref q1, .ref q2, .ref q4im])), (q0, .inr (0, [.ref q0sg, .int ct])), (q0sg, .inl (cI, 60, .inl sg)), (q1, .inr (1, [.ref q3, .ref q1ne, .int si, .int ft])), (q3, .inr (3, [.ref q3fi, .ref q3to, .int th, .int he, .int ma, .int ro])), (q3fi, .inl (cI, 12, .inl fi)), (q3to, .inl (cI, 12, .inl to)), (q1ne, .inl (cI, 8, .inl ne)), (q2, .inr (2, [.ref q3w, .int ac, .int wy, .int fa, .int fp])), (q3w, .inr (3, [.ref q3fiw, .ref q3tow, .int thw, .int hew, .int maw, .int row])), (q3fiw, .inl (cI, 12, .inl fiw)), (q3tow, .inl (cI, 12, .inl tow)), (q4im, .inl (cS, 2, .inr (.inr (.inr (.inr im)))))] [(q4, .inr (4, [.ref q0, .ref q1, .ref q2, .ref q4im])), (q0, .inr (0, [.ref q0sg, .int ct])), (q0sg, .inl (cI, 60, .inl sg)), (q1, .inr (1, [.ref q3, .ref q1ne, .int si, .int ft])), (q3, .inr (3, [.ref q3fi, .ref q3to, .int th, .int he, .int ma, .int ro])), (q3fi, .inl (cI, 12, .inl fi)), (q3to, .inl (cI, 12, .inl to)), (q1ne, .inl (cI, 8, .inl ne)), (q2, .inr (2, [.ref q3w, .int ac, .int wy, .int fa, .int fp])), (q3w, .inr (3, [.ref q3fiw, .ref q3tow, .int thw_o, .int hew_o, .int maw_o, .int row_o])), (q3fiw, .inl (cI, 12, .inl fiw_o)), (q3tow, .inl (cI, 12, .inl tow_o)), (q4im, .inl (cS, 2, .inr (.inr (.inr (.inr im)))))] sz r0) 0 0 (va_A [(q4, .inr (4, [.ref q0, .ref q1, .ref q2, .ref q4im])), (q0, .inr (0, [.ref q0sg, .int ct])), (q0sg, .inl (cI, 60, .inl sg)), (q1, .inr (1, [.ref q3, .ref q1ne, .int si, .int ft])), (q3, .inr (3, [.ref q3fi, .ref q3to, .int th, .int he, .int ma, .int ro])), (q3fi, .inl (cI, 12, .inl fi)), (q3to, .inl (cI, 12, .inl to)), (q1ne, .inl (cI, 8, .inl ne)), (q2, .inr (2, [.ref q3w, .int ac, .int wy, .int fa, .int fp])), (q3w, .inr (3, [.ref q3fiw, .ref q3tow, .int thw, .int hew, .int maw, .int row])), (q3fiw, .inl (cI, 12, .inl fiw)), (q3tow, .inl (cI, 12, .inl tow)), (q4im, .inl (cS, 2, .inr (.inr (.inr (.inr im)))))] sz) := by
  refine kMi (own := RX4) (ty := .int) rfl (by decide) rfl ?_ (Nat.le_of_ble_eq_true rfl)
  intro p e s m args below meth c Q A CF hK hN hA hP hD hret ls hl
  have hS : va_S A s.heap s.heap [] := va_S.rf
  obtain ⟨hx, hb, hml, hown, hts⟩ := id CF
  have hl : lv_has ls 5 [(0, .ref q4), (1, .int v1), (2, .int v2), (3, .int v3)] := hl
  unfold m_X4_day at hs
  refine lv_iload_n hx hb dX4_day_0 rfl (lv_at hl 1 rfl) ?_
  refine lv_iconst (v := 0) hx hb dX4_day_1 (by decide) ?_
  refine lv_sipush (v := 9999) hx hb dX4_day_2 (by decide) ?_
  refine kpi (va_runS (As := [.int v1, .int (0 : Int32), .int (9999 : Int32)]) (rest := []) ⟨hx, hb, hml, hown, hts⟩ (k_X4_isOutside l v1 (0 : Int32) (9999 : Int32) _ rfl) (va_cwS 3 hts (kGood (kgS mG_188 mG_12 mG_13 mG_9)) rfl rfl rfl hd_X4_isOutside ⟨Nat.le_of_ble_eq_true rfl, Nat.le_of_ble_eq_true rfl⟩) preEq rfl rfl hl.1 rfl (lv_room (Nat.le_of_ble_eq_true rfl)) dX4_day_5 ⟨Nat.zero_le _, Nat.zero_le _⟩) ?_
  refine lv_if_ne (tgt := 30) hx hb dX4_day_8 (by decide) (fun c_1 => ?_) (fun c_1 => ?_)
  · replace hs := if_n c_1 hs
    refine lv_bipush (v := -2) hx hb dX4_day_30 (by decide) ?_
    cases hs
    exact hret _ _ _ _ hP hD hS (vp_nar_int _) dX4_day_32
  · replace hs := if_p c_1 hs
    refine lv_iload_n hx hb dX4_day_11 rfl (lv_at hl 2 rfl) ?_
    refine lv_iconst (v := 1) hx hb dX4_day_12 (by decide) ?_
    refine lv_bipush (v := 99) hx hb dX4_day_13 (by decide) ?_
    refine kpi (va_runS (As := [.int v2, .int (1 : Int32), .int (99 : Int32)]) (rest := []) ⟨hx, hb, hml, hown, hts⟩ (k_X4_isOutside l v2 (1 : Int32) (99 : Int32) _ rfl) (va_cwS 3 hts (kGood (kgS mG_188 mG_12 mG_13 mG_9)) rfl rfl rfl hd_X4_isOutside ⟨Nat.le_of_ble_eq_true rfl, Nat.le_of_ble_eq_true rfl⟩) preEq rfl rfl hl.1 rfl (lv_room (Nat.le_of_ble_eq_true rfl)) dX4_day_15 ⟨Nat.zero_le _, Nat.zero_le _⟩) ?_
    refine lv_if_ne (tgt := 30) hx hb dX4_day_18 (by decide) (fun c_2 => ?_) (fun c_2 => ?_)
    · replace hs := if_n c_2 hs
      refine lv_bipush (v := -2) hx hb dX4_day_30 (by decide) ?_
      cases hs
      exact hret _ _ _ _ hP hD hS (vp_nar_int _) dX4_day_32
    · replace hs := if_p c_2 hs
      refine lv_iload_n hx hb dX4_day_21 rfl (lv_at hl 3 rfl) ?_
      refine lv_iconst (v := 0) hx hb dX4_day_22 (by decide) ?_
      refine lv_iconst (v := 2) hx hb dX4_day_23 (by decide) ?_
      refine kpi (va_runS (As := [.int v3, .int (0 : Int32), .int (2 : Int32)]) (rest := []) ⟨hx, hb, hml, hown, hts⟩ (k_X4_isOutside l v3 (0 : Int32) (2 : Int32) _ rfl) (va_cwS 3 hts (kGood (kgS mG_188 mG_12 mG_13 mG_9)) rfl rfl rfl hd_X4_isOutside ⟨Nat.le_of_ble_eq_true rfl, Nat.le_of_ble_eq_true rfl⟩) preEq rfl rfl hl.1 rfl (lv_room (Nat.le_of_ble_eq_true rfl)) dX4_day_24 ⟨Nat.zero_le _, Nat.zero_le _⟩) ?_
      refine lv_if_eq (tgt := 33) hx hb dX4_day_27 (by decide) (fun c_3 => ?_) (fun c_3 => ?_)
      · replace hs := if_p c_3 hs
        refine lv_aload_n hx hb dX4_day_33 rfl (lv_at hl 0 rfl) ?_
        refine va_get (D := (dC, dI)) (ci := 4) (v := .ref q2) (C := RX4) (T := TX4) (N := 4) hx hb hts (fun w h => kg1 (iG_4 w h)) hown hK hP 0 rfl rfl 2 (by decide) (hts _ (kg1 mG_177)) (fun _ h9 => h9) rfl dX4_day_34 ?_
        refine va_get (D := (dC, dI)) (ci := 2) (v := .ref q3w) (C := RX2) (T := TX2) (N := 5) hx hb hts (fun w h => kg1 (iG_2 w h)) hown hK hP 8 rfl rfl 0 (by decide) (hts _ (kg1 mG_224)) (fun _ h9 => h9) rfl dX4_day_37 ?_
        refine lv_astore (lv' := [(4, .ref q3w), (0, .ref q4), (1, .int v1), (2, .int v2), (3, .int v3)]) hx hb dX4_day_40 hl (by decide) rfl (fun ls hl => ?_)
        refine lv_aload hx hb dX4_day_42 (lv_at hl 0 rfl) ?_
        refine lv_aload_n hx hb dX4_day_44 rfl (lv_at hl 1 rfl) ?_
        refine va_get (D := (dC, dI)) (ci := 4) (v := .ref q1) (C := RX4) (T := TX4) (N := 4) hx hb hts (fun w h => kg1 (iG_4 w h)) hown hK hP 0 rfl rfl 1 (by decide) (hts _ (kg1 mG_174)) (fun _ h9 => h9) rfl dX4_day_45 ?_
        refine va_get (D := (dC, dI)) (ci := 1) (v := .ref q3) (C := RX1) (T := TX1) (N := 4) hx hb hts (fun w h => kg1 (iG_1 w h)) hown hK hP 3 rfl rfl 0 (by decide) (hts _ (kg1 mG_185)) (fun _ h9 => h9) rfl dX4_day_48 ?_
        obtain ⟨thw_4, hew_5, maw_6, row_7, fiw_8, tow_9, hc_10, hs⟩ := ob6_e hs
        refine kcv (wr := [(q4, .inr (4, [.ref q0, .ref q1, .ref q2, .ref q4im])), (q0, .inr (0, [.ref q0sg, .int ct])), (q0sg, .inl (cI, 60, .inl sg)), (q1, .inr (1, [.ref q3, .ref q1ne, .int si, .int ft])), (q1ne, .inl (cI, 8, .inl ne)), (q2, .inr (2, [.ref q3w, .int ac, .int wy, .int fa, .int fp])), (q4im, .inl (cS, 2, .inr (.inr (.inr (.inr im)))))]) (ws' := [(q4, .inr (4, [.ref q0, .ref q1, .ref q2, .ref q4im])), (q0, .inr (0, [.ref q0sg, .int ct])), (q0sg, .inl (cI, 60, .inl sg)), (q1, .inr (1, [.ref q3, .ref q1ne, .int si, .int ft])), (q3, .inr (3, [.ref q3fi, .ref q3to, .int th, .int he, .int ma, .int ro])), (q3fi, .inl (cI, 12, .inl fi)), (q3to, .inl (cI, 12, .inl to)), (q1ne, .inl (cI, 8, .inl ne)), (q2, .inr (2, [.ref q3w, .int ac, .int wy, .int fa, .int fp])), (q3w, .inr (3, [.ref q3fiw, .ref q3tow, .int thw_4, .int hew_5, .int maw_6, .int row_7])), (q3fiw, .inl (cI, 12, .inl fiw_8)), (q3tow, .inl (cI, 12, .inl tow_9)), (q4im, .inl (cS, 2, .inr (.inr (.inr (.inr im)))))]) (va_runV (As := [.ref q3]) (rest := []) ⟨hx, hb, hml, hown, hts⟩ (k_X3_copyFrom l dC dI cI cZ cS q3w q3fiw q3tow q3 q3fi q3to s.heap.size thw hew maw row fiw tow th he ma ro fi to thw_4 hew_5 maw_6 row_7 fiw_8 tow_9 hc_10) (cwV 1 hts (kGood (kgV mG_228 mG_50 mG_51 mG_30 mG_37)) rfl rfl rfl ⟨rfl, hd_X3_copyFrom⟩ ⟨Nat.le_of_ble_eq_true rfl, Nat.le_of_ble_eq_true rfl⟩) (kpV hK hN (hP.sub (ws' := [(q3w, .inr (3, [.ref q3fiw, .ref q3tow, .int thw, .int hew, .int maw, .int row])), (q3fiw, .inl (cI, 12, .inl fiw)), (q3tow, .inl (cI, 12, .inl tow)), (q3, .inr (3, [.ref q3fi, .ref q3to, .int th, .int he, .int ma, .int ro])), (q3fi, .inl (cI, 12, .inl fi)), (q3to, .inl (cI, 12, .inl to))]) [9, 10, 11, 4, 5, 6] rfl) (hD.sub (ws' := [(q3w, .inr (3, [.ref q3fiw, .ref q3tow, .int thw, .int hew, .int maw, .int row])), (q3fiw, .inl (cI, 12, .inl fiw)), (q3tow, .inl (cI, 12, .inl tow)), (q3, .inr (3, [.ref q3fi, .ref q3to, .int th, .int he, .int ma, .int ro])), (q3fi, .inl (cI, 12, .inl fi)), (q3to, .inl (cI, 12, .inl to))]) [9, 10, 11, 4, 5, 6] rfl rfl) rfl rfl rfl) rfl rfl hl.1 rfl (lv_room (Nat.le_of_ble_eq_true rfl)) dX4_day_51 ⟨Nat.zero_le _, Nat.zero_le _⟩) hP hD hS hA [9, 10, 11, 4, 5, 6] [0, 1, 2, 3, 7, 8, 12] [0, 1, 2, 3, 10, 11, 12, 4, 5, 7, 8, 9, 6] rfl rfl rfl (by decide) rfl rfl (fun H locs hP hD hS => ?_)
        refine lv_aload hx hb dX4_day_54 (lv_at hl 0 rfl) ?_
        refine lv_iload_n hx hb dX4_day_56 rfl (lv_at hl 2 rfl) ?_
        refine lv_iload_n hx hb dX4_day_57 rfl (lv_at hl 3 rfl) ?_
        obtain ⟨hew_11, row_12, fiw_13, hc_14, hs⟩ := ob3_e hs
        refine kcv (wr := [(q4, .inr (4, [.ref q0, .ref q1, .ref q2, .ref q4im])), (q0, .inr (0, [.ref q0sg, .int ct])), (q0sg, .inl (cI, 60, .inl sg)), (q1, .inr (1, [.ref q3, .ref q1ne, .int si, .int ft])), (q3, .inr (3, [.ref q3fi, .ref q3to, .int th, .int he, .int ma, .int ro])), (q3fi, .inl (cI, 12, .inl fi)), (q3to, .inl (cI, 12, .inl to)), (q1ne, .inl (cI, 8, .inl ne)), (q2, .inr (2, [.ref q3w, .int ac, .int wy, .int fa, .int fp])), (q4im, .inl (cS, 2, .inr (.inr (.inr (.inr im)))))]) (ws' := [(q4, .inr (4, [.ref q0, .ref q1, .ref q2, .ref q4im])), (q0, .inr (0, [.ref q0sg, .int ct])), (q0sg, .inl (cI, 60, .inl sg)), (q1, .inr (1, [.ref q3, .ref q1ne, .int si, .int ft])), (q3, .inr (3, [.ref q3fi, .ref q3to, .int th, .int he, .int ma, .int ro])), (q3fi, .inl (cI, 12, .inl fi)), (q3to, .inl (cI, 12, .inl to)), (q1ne, .inl (cI, 8, .inl ne)), (q2, .inr (2, [.ref q3w, .int ac, .int wy, .int fa, .int fp])), (q3w, .inr (3, [.ref q3fiw, .ref q3tow, .int thw_4, .int hew_11, .int maw_6, .int row_12])), (q3fiw, .inl (cI, 12, .inl fiw_13)), (q3tow, .inl (cI, 12, .inl tow_9)), (q4im, .inl (cS, 2, .inr (.inr (.inr (.inr im)))))]) (va_runV (As := [.int v1, .int v2]) (rest := []) ⟨hx, hb, hml, hown, hts⟩ (k_X3_live l dC dI cI cZ cS q3w q3fiw q3tow H.size thw_4 hew_5 maw_6 row_7 fiw_8 tow_9 v1 v2 hew_11 row_12 fiw_13 hc_14) (cwV 2 hts (kGood (kgV mG_303 mG_304 mG_305 mG_30 mG_147)) rfl rfl rfl ⟨rfl, hd_X3_live⟩ ⟨Nat.le_of_ble_eq_true rfl, Nat.le_of_ble_eq_true rfl⟩) (kpV hK hN (hP.sub (ws' := [(q3w, .inr (3, [.ref q3fiw, .ref q3tow, .int thw_4, .int hew_5, .int maw_6, .int row_7])), (q3fiw, .inl (cI, 12, .inl fiw_8)), (q3tow, .inl (cI, 12, .inl tow_9))]) [9, 10, 11] rfl) (hD.sub (ws' := [(q3w, .inr (3, [.ref q3fiw, .ref q3tow, .int thw_4, .int hew_5, .int maw_6, .int row_7])), (q3fiw, .inl (cI, 12, .inl fiw_8)), (q3tow, .inl (cI, 12, .inl tow_9))]) [9, 10, 11] rfl rfl) rfl rfl rfl) rfl rfl hl.1 rfl (lv_room (Nat.le_of_ble_eq_true rfl)) dX4_day_58 ⟨Nat.zero_le _, Nat.zero_le _⟩) hP hD hS hA [9, 10, 11] [0, 1, 2, 3, 4, 5, 6, 7, 8, 12] [0, 1, 2, 3, 4, 5, 6, 7, 8, 10, 11, 12, 9] rfl rfl rfl (by decide) rfl rfl (fun H locs hP hD hS => ?_)
        refine lv_iload_n hx hb dX4_day_61 rfl (lv_at hl 4 rfl) ?_
        by_cases c_15 : v3 = (0 : Int32)
        · replace hs := if_p c_15 hs
          refine lv_lookup (off := 26) (tgt := 88) hx hb dX4_day_62 (by decide) (by rw [c_15]; decide) (by decide) ?_
          refine lv_aload hx hb dX4_day_88 (lv_at hl 0 rfl) ?_
          obtain ⟨r_16, hc_17, hs⟩ := ob1_e hs
          refine kci (wr := [(q4, .inr (4, [.ref q0, .ref q1, .ref q2, .ref q4im])), (q0, .inr (0, [.ref q0sg, .int ct])), (q0sg, .inl (cI, 60, .inl sg)), (q1, .inr (1, [.ref q3, .ref q1ne, .int si, .int ft])), (q3, .inr (3, [.ref q3fi, .ref q3to, .int th, .int he, .int ma, .int ro])), (q3fi, .inl (cI, 12, .inl fi)), (q3to, .inl (cI, 12, .inl to)), (q1ne, .inl (cI, 8, .inl ne)), (q2, .inr (2, [.ref q3w, .int ac, .int wy, .int fa, .int fp])), (q4im, .inl (cS, 2, .inr (.inr (.inr (.inr im)))))]) (ws' := [(q4, .inr (4, [.ref q0, .ref q1, .ref q2, .ref q4im])), (q0, .inr (0, [.ref q0sg, .int ct])), (q0sg, .inl (cI, 60, .inl sg)), (q1, .inr (1, [.ref q3, .ref q1ne, .int si, .int ft])), (q3, .inr (3, [.ref q3fi, .ref q3to, .int th, .int he, .int ma, .int ro])), (q3fi, .inl (cI, 12, .inl fi)), (q3to, .inl (cI, 12, .inl to)), (q1ne, .inl (cI, 8, .inl ne)), (q2, .inr (2, [.ref q3w, .int ac, .int wy, .int fa, .int fp])), (q3w, .inr (3, [.ref q3fiw, .ref q3tow, .int thw_4, .int hew_11, .int maw_6, .int row_12])), (q3fiw, .inl (cI, 12, .inl fiw_13)), (q3tow, .inl (cI, 12, .inl tow_9)), (q4im, .inl (cS, 2, .inr (.inr (.inr (.inr im)))))]) (va_runV (As := []) (rest := []) ⟨hx, hb, hml, hown, hts⟩ (k_X3_downBits l dC dI cI cZ cS q3w q3fiw q3tow H.size thw_4 hew_11 maw_6 row_12 fiw_13 tow_9 r_16 hc_17) (cwV 0 hts (kGood (kgV mG_233 mG_126 mG_127 mG_30 mG_75)) rfl rfl rfl ⟨rfl, hd_X3_downBits⟩ ⟨Nat.le_of_ble_eq_true rfl, Nat.le_of_ble_eq_true rfl⟩) (kpV hK hN (hP.sub (ws' := [(q3w, .inr (3, [.ref q3fiw, .ref q3tow, .int thw_4, .int hew_11, .int maw_6, .int row_12])), (q3fiw, .inl (cI, 12, .inl fiw_13)), (q3tow, .inl (cI, 12, .inl tow_9))]) [9, 10, 11] rfl) (hD.sub (ws' := [(q3w, .inr (3, [.ref q3fiw, .ref q3tow, .int thw_4, .int hew_11, .int maw_6, .int row_12])), (q3fiw, .inl (cI, 12, .inl fiw_13)), (q3tow, .inl (cI, 12, .inl tow_9))]) [9, 10, 11] rfl rfl) rfl rfl rfl) rfl rfl hl.1 rfl (lv_room (Nat.le_of_ble_eq_true rfl)) dX4_day_90 ⟨Nat.zero_le _, Nat.zero_le _⟩) hP hD hS hA [9, 10, 11] [0, 1, 2, 3, 4, 5, 6, 7, 8, 12] [0, 1, 2, 3, 4, 5, 6, 7, 8, 10, 11, 12, 9] rfl rfl rfl (by decide) rfl rfl (fun H locs hP hD hS => ?_)
          refine kpi (va_runS (As := [.int r_16]) (rest := []) ⟨hx, hb, hml, hown, hts⟩ (k_J6_bitCount_0f7a4 l r_16 _ rfl) (va_cwS 1 hts (kGood (kgS mG_191 mG_58 mG_59 mG_52)) rfl rfl rfl hd_J6_bitCount_0f7a4 ⟨Nat.le_of_ble_eq_true rfl, Nat.le_of_ble_eq_true rfl⟩) preEq rfl rfl hl.1 rfl (lv_room (Nat.le_of_ble_eq_true rfl)) dX4_day_93 ⟨Nat.zero_le _, Nat.zero_le _⟩) ?_
          cases hs
          exact hret _ _ _ _ hP hD hS (vp_nar_int _) dX4_day_96
        replace hs := if_n c_15 hs
        by_cases c_18 : v3 = (1 : Int32)
        · replace hs := if_p c_18 hs
          refine lv_lookup (off := 35) (tgt := 97) hx hb dX4_day_62 (by decide) (by rw [c_18]; decide) (by decide) ?_
          refine lv_aload hx hb dX4_day_97 (lv_at hl 0 rfl) ?_
          refine va_get (D := (dC, dI)) (ci := 3) (v := .int hew_11) (C := RX3) (T := TX3) (N := 6) hx hb hts (fun w h => kg1 (iG_3 w h)) hown hK hP 9 rfl rfl 3 (by decide) (hts _ (kg1 mG_231)) (fun _ h9 => h9) rfl dX4_day_99 ?_
          cases hs
          exact hret _ _ _ _ hP hD hS (vp_nar_int _) dX4_day_102
        replace hs := if_n c_18 hs
        refine lv_lookup (off := 41) (tgt := 103) hx hb dX4_day_62 (by decide) (show Op.lookupswitch.offset [(0, 26), (1, 35)] 41 (Int32.toInt v3) = 41 from by rw [lv_osw c_15 (by decide), lv_osw c_18 (by decide)]; rfl) (by decide) ?_
        refine lv_aload hx hb dX4_day_103 (lv_at hl 0 rfl) ?_
        refine va_get (D := (dC, dI)) (ci := 3) (v := .int row_12) (C := RX3) (T := TX3) (N := 6) hx hb hts (fun w h => kg1 (iG_3 w h)) hown hK hP 9 rfl rfl 5 (by decide) (hts _ (kg1 mG_232)) (fun _ h9 => h9) rfl dX4_day_105 ?_
        cases hs
        exact hret _ _ _ _ hP hD hS (vp_nar_int _) dX4_day_108
      · replace hs := if_n c_3 hs
        refine lv_bipush (v := -2) hx hb dX4_day_30 (by decide) ?_
        cases hs
        exact hret _ _ _ _ hP hD hS (vp_nar_int _) dX4_day_32
abbrev rm_X4_told : Room := { frames := 1, cells := 0, slots := 0, locals := 22 }
theorem hd_X4_told : yX4_told.cls ≠ "java/lang/invoke/MethodHandle" ∧ yX4_told.cls ≠ "java/lang/invoke/VarHandle" ∧ (parseMethodDescriptor yX4_told.desc).map (fun d => d.parameters.length) = some 1 := by decide +kernel
set_option maxHeartbeats 4000000 in
set_option maxRecDepth 100000 in
theorem k_X4_told (l : Launch) (dC : Nat → ClassId) (dI : Nat → Nat → Nat) (cI cZ cS : ClassId) (q4 q0 q0sg q1 q3 q3fi q3to q1ne q2 q3w q3fiw q3tow q4im : Nat) (sz : Nat) (ct : Int32) (sg : Ar) (si : Int32) (ft : Int32) (th : Int32) (he : Int32) (ma : Int32) (ro : Int32) (fi : Ar) (to : Ar) (ne : Ar) (ac : Int32) (wy : Int32) (fa : Int32) (fp : Int32) (thw : Int32) (hew : Int32) (maw : Int32) (row : Int32) (fiw : Ar) (tow : Ar) (im : Nat → Option Nat) (v1 : Int32) (r0 : Int32) (hs : m_X4_told v1 ct si th he ma ro fi to ne = some r0) : Met l yX4_told (.code yX4_told cX4_told 2 (some .int) :: kG) rm_X4_told (va_Pc [.ref q4, .int v1] (kW (dC, dI) cI cZ cS [(q4, .inr (4, [.ref q0, .ref q1, .ref q2, .ref q4im])), (q0, .inr (0, [.ref q0sg, .int ct])), (q0sg, .inl (cI, 60, .inl sg)), (q1, .inr (1, [.ref q3, .ref q1ne, .int si, .int ft])), (q3, .inr (3, [.ref q3fi, .ref q3to, .int th, .int he, .int ma, .int ro])), (q3fi, .inl (cI, 12, .inl fi)), (q3to, .inl (cI, 12, .inl to)), (q1ne, .inl (cI, 8, .inl ne)), (q2, .inr (2, [.ref q3w, .int ac, .int wy, .int fa, .int fp])), (q3w, .inr (3, [.ref q3fiw, .ref q3tow, .int thw, .int hew, .int maw, .int row])), (q3fiw, .inl (cI, 12, .inl fiw)), (q3tow, .inl (cI, 12, .inl tow)), (q4im, .inl (cS, 2, .inr (.inr (.inr (.inr im)))))] sz)) (kQi (dC, dI) [(q4, .inr (4, [.ref q0, .ref q1, .ref q2, .ref q4im])), (q0, .inr (0, [.ref q0sg, .int ct])), (q0sg, .inl (cI, 60, .inl sg)), (q1, .inr (1, [.ref q3, .ref q1ne, .int si, .int ft])), (q3, .inr (3, [.ref q3fi, .ref q3to, .int th, .int he, .int ma, .int ro])), (q3fi, .inl (cI, 12, .inl fi)), (q3to, .inl (cI, 12, .inl to)), (q1ne, .inl (cI, 8, .inl ne)), (q2, .inr (2, [.ref q3w, .int ac, .int wy, .int fa, .int fp])), (q3w, .inr (3, [.ref q3fiw, .ref q3tow, .int thw, .int hew, .int maw, .int row])), (q3fiw, .inl (cI, 12, .inl fiw)), (q3tow, .inl (cI, 12, .inl tow)), (q4im, .inl (cS, 2, .inr (.inr (.inr (.inr im)))))] [(q4, .inr (4, [.ref q0, .ref q1, .ref q2, .ref q4im])), (q0, .inr (0, [.ref q0sg, .int ct])), (q0sg, .inl (cI, 60, .inl sg)), (q1, .inr (1, [.ref q3, .ref q1ne, .int si, .int ft])), (q3, .inr (3, [.ref q3fi, .ref q3to, .int th, .int he, .int ma, .int ro])), (q3fi, .inl (cI, 12, .inl fi)), (q3to, .inl (cI, 12, .inl to)), (q1ne, .inl (cI, 8, .inl ne)), (q2, .inr (2, [.ref q3w, .int ac, .int wy, .int fa, .int fp])), (q3w, .inr (3, [.ref q3fiw, .ref q3tow, .int thw, .int hew, .int maw, .int row])), (q3fiw, .inl (cI, 12, .inl fiw)), (q3tow, .inl (cI, 12, .inl tow)), (q4im, .inl (cS, 2, .inr (.inr (.inr (.inr im)))))] sz r0) 0 0 (va_A [(q4, .inr (4, [.ref q0, .ref q1, .ref q2, .ref q4im])), (q0, .inr (0, [.ref q0sg, .int ct])), (q0sg, .inl (cI, 60, .inl sg)), (q1, .inr (1, [.ref q3, .ref q1ne, .int si, .int ft])), (q3, .inr (3, [.ref q3fi, .ref q3to, .int th, .int he, .int ma, .int ro])), (q3fi, .inl (cI, 12, .inl fi)), (q3to, .inl (cI, 12, .inl to)), (q1ne, .inl (cI, 8, .inl ne)), (q2, .inr (2, [.ref q3w, .int ac, .int wy, .int fa, .int fp])), (q3w, .inr (3, [.ref q3fiw, .ref q3tow, .int thw, .int hew, .int maw, .int row])), (q3fiw, .inl (cI, 12, .inl fiw)), (q3tow, .inl (cI, 12, .inl tow)), (q4im, .inl (cS, 2, .inr (.inr (.inr (.inr im)))))] sz) := by
  refine kMi (own := RX4) (ty := .int) rfl (by decide) rfl ?_ (Nat.le_of_ble_eq_true rfl)
  intro p e s m args below meth c Q A CF hK hN hA hP hD hret ls hl
  have hS : va_S A s.heap s.heap [] := va_S.rf
  obtain ⟨hx, hb, hml, hown, hts⟩ := id CF
  have hl : lv_has ls 2 [(0, .ref q4), (1, .int v1)] := hl
  unfold m_X4_told at hs
  refine lv_iload_n hx hb dX4_told_0 rfl (lv_at hl 1 rfl) ?_
  refine lv_bipush (v := 10) hx hb dX4_told_1 (by decide) ?_
  refine lv_bipush (v := 21) hx hb dX4_told_3 (by decide) ?_
  refine kpi (va_runS (As := [.int v1, .int (10 : Int32), .int (21 : Int32)]) (rest := []) ⟨hx, hb, hml, hown, hts⟩ (k_X4_isOutside l v1 (10 : Int32) (21 : Int32) _ rfl) (va_cwS 3 hts (kGood (kgS mG_188 mG_12 mG_13 mG_9)) rfl rfl rfl hd_X4_isOutside ⟨Nat.le_of_ble_eq_true rfl, Nat.le_of_ble_eq_true rfl⟩) preEq rfl rfl hl.1 rfl (lv_room (Nat.le_of_ble_eq_true rfl)) dX4_told_5 ⟨Nat.zero_le _, Nat.zero_le _⟩) ?_
  refine lv_if_ne (tgt := 27) hx hb dX4_told_8 (by decide) (fun c_1 => ?_) (fun c_1 => ?_)
  · replace hs := if_n c_1 hs
    refine lv_iload_n hx hb dX4_told_27 rfl (lv_at hl 1 rfl) ?_
    refine lv_bipush (v := 30) hx hb dX4_told_28 (by decide) ?_
    refine lv_bipush (v := 41) hx hb dX4_told_30 (by decide) ?_
    refine kpi (va_runS (As := [.int v1, .int (30 : Int32), .int (41 : Int32)]) (rest := []) ⟨hx, hb, hml, hown, hts⟩ (k_X4_isOutside l v1 (30 : Int32) (41 : Int32) _ rfl) (va_cwS 3 hts (kGood (kgS mG_188 mG_12 mG_13 mG_9)) rfl rfl rfl hd_X4_isOutside ⟨Nat.le_of_ble_eq_true rfl, Nat.le_of_ble_eq_true rfl⟩) preEq rfl rfl hl.1 rfl (lv_room (Nat.le_of_ble_eq_true rfl)) dX4_told_32 ⟨Nat.zero_le _, Nat.zero_le _⟩) ?_
    refine lv_if_ne (tgt := 54) hx hb dX4_told_35 (by decide) (fun c_2 => ?_) (fun c_2 => ?_)
    · replace hs := if_n c_2 hs
      refine lv_iload_n hx hb dX4_told_54 rfl (lv_at hl 1 rfl) ?_
      refine lv_bipush (v := 50) hx hb dX4_told_55 (by decide) ?_
      refine lv_bipush (v := 57) hx hb dX4_told_57 (by decide) ?_
      refine kpi (va_runS (As := [.int v1, .int (50 : Int32), .int (57 : Int32)]) (rest := []) ⟨hx, hb, hml, hown, hts⟩ (k_X4_isOutside l v1 (50 : Int32) (57 : Int32) _ rfl) (va_cwS 3 hts (kGood (kgS mG_188 mG_12 mG_13 mG_9)) rfl rfl rfl hd_X4_isOutside ⟨Nat.le_of_ble_eq_true rfl, Nat.le_of_ble_eq_true rfl⟩) preEq rfl rfl hl.1 rfl (lv_room (Nat.le_of_ble_eq_true rfl)) dX4_told_59 ⟨Nat.zero_le _, Nat.zero_le _⟩) ?_
      refine lv_if_ne (tgt := 78) hx hb dX4_told_62 (by decide) (fun c_3 => ?_) (fun c_3 => ?_)
      · replace hs := if_n c_3 hs
        refine lv_iload_n hx hb dX4_told_78 rfl (lv_at hl 1 rfl) ?_
        by_cases c_4 : v1 = (0 : Int32)
        · replace hs := if_p c_4 hs
          refine lv_tableIn (off := 37) (tgt := 116) hx hb dX4_told_79 (by rw [c_4]; decide) (by rw [c_4]; decide) (by rw [c_4]; decide) (by decide) ?_
          refine lv_aload_n hx hb dX4_told_116 rfl (lv_at hl 0 rfl) ?_
          refine va_get (D := (dC, dI)) (ci := 4) (v := .ref q0) (C := RX4) (T := TX4) (N := 4) hx hb hts (fun w h => kg1 (iG_4 w h)) hown hK hP 0 rfl rfl 0 (by decide) (hts _ (kg1 mG_171)) (fun _ h9 => h9) rfl dX4_told_117 ?_
          refine va_get (D := (dC, dI)) (ci := 0) (v := .int ct) (C := RX0) (T := TX0) (N := 2) hx hb hts (fun w h => kg1 (iG_0 w h)) hown hK hP 1 rfl rfl 1 (by decide) (hts _ (kg1 mG_205)) (fun _ h9 => h9) rfl dX4_told_120 ?_
          cases hs
          exact hret _ _ _ _ hP hD hS (vp_nar_int _) dX4_told_123
        replace hs := if_n c_4 hs
        by_cases c_5 : v1 = (1 : Int32)
        · replace hs := if_p c_5 hs
          refine lv_tableIn (off := 45) (tgt := 124) hx hb dX4_told_79 (by rw [c_5]; decide) (by rw [c_5]; decide) (by rw [c_5]; decide) (by decide) ?_
          refine lv_aload_n hx hb dX4_told_124 rfl (lv_at hl 0 rfl) ?_
          refine va_get (D := (dC, dI)) (ci := 4) (v := .ref q1) (C := RX4) (T := TX4) (N := 4) hx hb hts (fun w h => kg1 (iG_4 w h)) hown hK hP 0 rfl rfl 1 (by decide) (hts _ (kg1 mG_174)) (fun _ h9 => h9) rfl dX4_told_125 ?_
          refine va_get (D := (dC, dI)) (ci := 1) (v := .ref q3) (C := RX1) (T := TX1) (N := 4) hx hb hts (fun w h => kg1 (iG_1 w h)) hown hK hP 3 rfl rfl 0 (by decide) (hts _ (kg1 mG_185)) (fun _ h9 => h9) rfl dX4_told_128 ?_
          refine va_get (D := (dC, dI)) (ci := 3) (v := .int ro) (C := RX3) (T := TX3) (N := 6) hx hb hts (fun w h => kg1 (iG_3 w h)) hown hK hP 4 rfl rfl 5 (by decide) (hts _ (kg1 mG_232)) (fun _ h9 => h9) rfl dX4_told_131 ?_
          cases hs
          exact hret _ _ _ _ hP hD hS (vp_nar_int _) dX4_told_134
        replace hs := if_n c_5 hs
        by_cases c_6 : v1 = (2 : Int32)
        · replace hs := if_p c_6 hs
          refine lv_tableIn (off := 56) (tgt := 135) hx hb dX4_told_79 (by rw [c_6]; decide) (by rw [c_6]; decide) (by rw [c_6]; decide) (by decide) ?_
          refine lv_aload_n hx hb dX4_told_135 rfl (lv_at hl 0 rfl) ?_
          refine va_get (D := (dC, dI)) (ci := 4) (v := .ref q1) (C := RX4) (T := TX4) (N := 4) hx hb hts (fun w h => kg1 (iG_4 w h)) hown hK hP 0 rfl rfl 1 (by decide) (hts _ (kg1 mG_174)) (fun _ h9 => h9) rfl dX4_told_136 ?_
          refine va_get (D := (dC, dI)) (ci := 1) (v := .ref q3) (C := RX1) (T := TX1) (N := 4) hx hb hts (fun w h => kg1 (iG_1 w h)) hown hK hP 3 rfl rfl 0 (by decide) (hts _ (kg1 mG_185)) (fun _ h9 => h9) rfl dX4_told_139 ?_
          refine va_get (D := (dC, dI)) (ci := 3) (v := .int he) (C := RX3) (T := TX3) (N := 6) hx hb hts (fun w h => kg1 (iG_3 w h)) hown hK hP 4 rfl rfl 3 (by decide) (hts _ (kg1 mG_231)) (fun _ h9 => h9) rfl dX4_told_142 ?_
          cases hs
          exact hret _ _ _ _ hP hD hS (vp_nar_int _) dX4_told_145
        replace hs := if_n c_6 hs
        by_cases c_7 : v1 = (3 : Int32)
        · replace hs := if_p c_7 hs
          refine lv_tableIn (off := 67) (tgt := 146) hx hb dX4_told_79 (by rw [c_7]; decide) (by rw [c_7]; decide) (by rw [c_7]; decide) (by decide) ?_
          refine lv_aload_n hx hb dX4_told_146 rfl (lv_at hl 0 rfl) ?_
          refine va_get (D := (dC, dI)) (ci := 4) (v := .ref q1) (C := RX4) (T := TX4) (N := 4) hx hb hts (fun w h => kg1 (iG_4 w h)) hown hK hP 0 rfl rfl 1 (by decide) (hts _ (kg1 mG_174)) (fun _ h9 => h9) rfl dX4_told_147 ?_
          refine va_get (D := (dC, dI)) (ci := 1) (v := .ref q3) (C := RX1) (T := TX1) (N := 4) hx hb hts (fun w h => kg1 (iG_1 w h)) hown hK hP 3 rfl rfl 0 (by decide) (hts _ (kg1 mG_185)) (fun _ h9 => h9) rfl dX4_told_150 ?_
          refine va_get (D := (dC, dI)) (ci := 3) (v := .int ma) (C := RX3) (T := TX3) (N := 6) hx hb hts (fun w h => kg1 (iG_3 w h)) hown hK hP 4 rfl rfl 4 (by decide) (hts _ (kg1 mG_313)) (fun _ h9 => h9) rfl dX4_told_153 ?_
          cases hs
          exact hret _ _ _ _ hP hD hS (vp_nar_int _) dX4_told_156
        replace hs := if_n c_7 hs
        by_cases c_8 : v1 = (4 : Int32)
        · replace hs := if_p c_8 hs
          refine lv_tableIn (off := 78) (tgt := 157) hx hb dX4_told_79 (by rw [c_8]; decide) (by rw [c_8]; decide) (by rw [c_8]; decide) (by decide) ?_
          refine lv_aload_n hx hb dX4_told_157 rfl (lv_at hl 0 rfl) ?_
          refine va_get (D := (dC, dI)) (ci := 4) (v := .ref q1) (C := RX4) (T := TX4) (N := 4) hx hb hts (fun w h => kg1 (iG_4 w h)) hown hK hP 0 rfl rfl 1 (by decide) (hts _ (kg1 mG_174)) (fun _ h9 => h9) rfl dX4_told_158 ?_
          refine va_get (D := (dC, dI)) (ci := 1) (v := .ref q3) (C := RX1) (T := TX1) (N := 4) hx hb hts (fun w h => kg1 (iG_1 w h)) hown hK hP 3 rfl rfl 0 (by decide) (hts _ (kg1 mG_185)) (fun _ h9 => h9) rfl dX4_told_161 ?_
          refine va_get (D := (dC, dI)) (ci := 3) (v := .int th) (C := RX3) (T := TX3) (N := 6) hx hb hts (fun w h => kg1 (iG_3 w h)) hown hK hP 4 rfl rfl 2 (by decide) (hts _ (kg1 mG_190)) (fun _ h9 => h9) rfl dX4_told_164 ?_
          cases hs
          exact hret _ _ _ _ hP hD hS (vp_nar_int _) dX4_told_167
        replace hs := if_n c_8 hs
        by_cases c_9 : v1 = (5 : Int32)
        · replace hs := if_p c_9 hs
          refine lv_tableIn (off := 89) (tgt := 168) hx hb dX4_told_79 (by rw [c_9]; decide) (by rw [c_9]; decide) (by rw [c_9]; decide) (by decide) ?_
          refine lv_aload_n hx hb dX4_told_168 rfl (lv_at hl 0 rfl) ?_
          refine va_get (D := (dC, dI)) (ci := 4) (v := .ref q1) (C := RX4) (T := TX4) (N := 4) hx hb hts (fun w h => kg1 (iG_4 w h)) hown hK hP 0 rfl rfl 1 (by decide) (hts _ (kg1 mG_174)) (fun _ h9 => h9) rfl dX4_told_169 ?_
          refine va_get (D := (dC, dI)) (ci := 1) (v := .int si) (C := RX1) (T := TX1) (N := 4) hx hb hts (fun w h => kg1 (iG_1 w h)) hown hK hP 3 rfl rfl 2 (by decide) (hts _ (kg1 mG_266)) (fun _ h9 => h9) rfl dX4_told_172 ?_
          cases hs
          exact hret _ _ _ _ hP hD hS (vp_nar_int _) dX4_told_175
        replace hs := if_n c_9 hs
        refine lv_tableOut (tgt := 176) hx hb dX4_told_79 (by have := lv_neT c_4 (a := 0) (by decide); have := lv_neT c_5 (a := 1) (by decide); have := lv_neT c_6 (a := 2) (by decide); have := lv_neT c_7 (a := 3) (by decide); have := lv_neT c_8 (a := 4) (by decide); have := lv_neT c_9 (a := 5) (by decide); omega) (by decide) ?_
        refine lv_bipush (v := -2) hx hb dX4_told_176 (by decide) ?_
        cases hs
        exact hret _ _ _ _ hP hD hS (vp_nar_int _) dX4_told_178
      · replace hs := if_p c_3 hs
        refine lv_aload_n hx hb dX4_told_65 rfl (lv_at hl 0 rfl) ?_
        refine va_get (D := (dC, dI)) (ci := 4) (v := .ref q1) (C := RX4) (T := TX4) (N := 4) hx hb hts (fun w h => kg1 (iG_4 w h)) hown hK hP 0 rfl rfl 1 (by decide) (hts _ (kg1 mG_174)) (fun _ h9 => h9) rfl dX4_told_66 ?_
        refine va_get (D := (dC, dI)) (ci := 1) (v := .ref q1ne) (C := RX1) (T := TX1) (N := 4) hx hb hts (fun w h => kg1 (iG_1 w h)) hown hK hP 3 rfl rfl 1 (by decide) (hts _ (kg1 mG_203)) (fun _ h9 => h9) rfl dX4_told_69 ?_
        refine lv_iload_n hx hb dX4_told_72 rfl (lv_at hl 1 rfl) ?_
        refine lv_bipush (v := 50) hx hb dX4_told_73 (by decide) ?_
        refine lv_isub hx hb dX4_told_75 ?_
        obtain ⟨hg_10, hs⟩ := gd_e hs
        refine kald hx hb hK hP 7 0 rfl rfl (j := (Int32.toNatClampNeg (v1 - (50 : Int32)))) rfl (inb_e hg_10) dX4_told_76 ?_
        cases hs
        exact hret _ _ _ _ hP hD hS (vp_nar_int _) dX4_told_77
    · replace hs := if_p c_2 hs
      refine lv_aload_n hx hb dX4_told_38 rfl (lv_at hl 0 rfl) ?_
      refine va_get (D := (dC, dI)) (ci := 4) (v := .ref q1) (C := RX4) (T := TX4) (N := 4) hx hb hts (fun w h => kg1 (iG_4 w h)) hown hK hP 0 rfl rfl 1 (by decide) (hts _ (kg1 mG_174)) (fun _ h9 => h9) rfl dX4_told_39 ?_
      refine va_get (D := (dC, dI)) (ci := 1) (v := .ref q3) (C := RX1) (T := TX1) (N := 4) hx hb hts (fun w h => kg1 (iG_1 w h)) hown hK hP 3 rfl rfl 0 (by decide) (hts _ (kg1 mG_185)) (fun _ h9 => h9) rfl dX4_told_42 ?_
      refine va_get (D := (dC, dI)) (ci := 3) (v := .ref q3to) (C := RX3) (T := TX3) (N := 6) hx hb hts (fun w h => kg1 (iG_3 w h)) hown hK hP 4 rfl rfl 1 (by decide) (hts _ (kg1 mG_187)) (fun _ h9 => h9) rfl dX4_told_45 ?_
      refine lv_iload_n hx hb dX4_told_48 rfl (lv_at hl 1 rfl) ?_
      refine lv_bipush (v := 30) hx hb dX4_told_49 (by decide) ?_
      refine lv_isub hx hb dX4_told_51 ?_
      obtain ⟨hg_11, hs⟩ := gd_e hs
      refine kald hx hb hK hP 6 0 rfl rfl (j := (Int32.toNatClampNeg (v1 - (30 : Int32)))) rfl (inb_e hg_11) dX4_told_52 ?_
      cases hs
      exact hret _ _ _ _ hP hD hS (vp_nar_int _) dX4_told_53
  · replace hs := if_p c_1 hs
    refine lv_aload_n hx hb dX4_told_11 rfl (lv_at hl 0 rfl) ?_
    refine va_get (D := (dC, dI)) (ci := 4) (v := .ref q1) (C := RX4) (T := TX4) (N := 4) hx hb hts (fun w h => kg1 (iG_4 w h)) hown hK hP 0 rfl rfl 1 (by decide) (hts _ (kg1 mG_174)) (fun _ h9 => h9) rfl dX4_told_12 ?_
    refine va_get (D := (dC, dI)) (ci := 1) (v := .ref q3) (C := RX1) (T := TX1) (N := 4) hx hb hts (fun w h => kg1 (iG_1 w h)) hown hK hP 3 rfl rfl 0 (by decide) (hts _ (kg1 mG_185)) (fun _ h9 => h9) rfl dX4_told_15 ?_
    refine va_get (D := (dC, dI)) (ci := 3) (v := .ref q3fi) (C := RX3) (T := TX3) (N := 6) hx hb hts (fun w h => kg1 (iG_3 w h)) hown hK hP 4 rfl rfl 0 (by decide) (hts _ (kg1 mG_186)) (fun _ h9 => h9) rfl dX4_told_18 ?_
    refine lv_iload_n hx hb dX4_told_21 rfl (lv_at hl 1 rfl) ?_
    refine lv_bipush (v := 10) hx hb dX4_told_22 (by decide) ?_
    refine lv_isub hx hb dX4_told_24 ?_
    obtain ⟨hg_12, hs⟩ := gd_e hs
    refine kald hx hb hK hP 5 0 rfl rfl (j := (Int32.toNatClampNeg (v1 - (10 : Int32)))) rfl (inb_e hg_12) dX4_told_25 ?_
    cases hs
    exact hret _ _ _ _ hP hD hS (vp_nar_int _) dX4_told_26
