abbrev rm_X5_part : Room := { frames := 2, cells := 0, slots := 0, locals := 42 }
theorem hd_X5_part : yX5_part.cls ≠ "java/lang/invoke/MethodHandle" ∧ yX5_part.cls ≠ "java/lang/invoke/VarHandle" ∧ (parseMethodDescriptor yX5_part.desc).map (fun d => d.parameters.length) = some 3 := by decide +kernel
set_option maxHeartbeats 4000000 in
set_option maxRecDepth 100000 in
theorem k_X5_part (l : Launch) (dC : Nat → ClassId) (dI : Nat → Nat → Nat) (cI cZ cS : ClassId) (q5 q5bk q5nw q5to q5ne q5st q5pd q5cn q5ig q5ik : Nat) (sz : Nat) (th : Int32) (si : Int32) (sn : Int32) (re : Int32) (ac : Int32) (fa : Int32) (fw : Int32) (bk : Ar) (nw : Ar) (to : Ar) (ne : Ar) (st : Ar) (pd : Ar) (cn : Ar) (ig : Ar) (ik : Ar) (v1 : Int32) (v2 : Int32) (v3 : Int32) (r0 : Int32) (bk_o : Ar) (to_o : Ar) (hs : m_X5_part v1 v2 v3 bk to = some (r0, bk_o, to_o)) : Met l yX5_part (.code yX5_part cX5_part 5 (some .int) :: kG) rm_X5_part (va_Pc [.ref q5, .int v1, .int v2, .int v3] (kW (dC, dI) cI cZ cS [(q5, .inr (5, [.ref q5bk, .ref q5nw, .ref q5to, .int th, .ref q5ne, .int si, .ref q5st, .int sn, .ref q5pd, .int re, .int ac, .int fa, .int fw, .ref q5cn, .ref q5ig, .ref q5ik])), (q5bk, .inl (cI, 15, .inl bk)), (q5nw, .inl (cI, 15, .inl nw)), (q5to, .inl (cI, 12, .inl to)), (q5ne, .inl (cI, 8, .inl ne)), (q5st, .inl (cI, 16, .inl st)), (q5pd, .inl (cI, 60, .inl pd)), (q5cn, .inl (cI, 3, .inl cn)), (q5ig, .inl (cI, 120, .inl ig)), (q5ik, .inl (cZ, 2, .inl ik))] sz)) (kQi (dC, dI) [(q5, .inr (5, [.ref q5bk, .ref q5nw, .ref q5to, .int th, .ref q5ne, .int si, .ref q5st, .int sn, .ref q5pd, .int re, .int ac, .int fa, .int fw, .ref q5cn, .ref q5ig, .ref q5ik])), (q5bk, .inl (cI, 15, .inl bk)), (q5nw, .inl (cI, 15, .inl nw)), (q5to, .inl (cI, 12, .inl to)), (q5ne, .inl (cI, 8, .inl ne)), (q5st, .inl (cI, 16, .inl st)), (q5pd, .inl (cI, 60, .inl pd)), (q5cn, .inl (cI, 3, .inl cn)), (q5ig, .inl (cI, 120, .inl ig)), (q5ik, .inl (cZ, 2, .inl ik))] [(q5, .inr (5, [.ref q5bk, .ref q5nw, .ref q5to, .int th, .ref q5ne, .int si, .ref q5st, .int sn, .ref q5pd, .int re, .int ac, .int fa, .int fw, .ref q5cn, .ref q5ig, .ref q5ik])), (q5bk, .inl (cI, 15, .inl bk_o)), (q5nw, .inl (cI, 15, .inl nw)), (q5to, .inl (cI, 12, .inl to_o)), (q5ne, .inl (cI, 8, .inl ne)), (q5st, .inl (cI, 16, .inl st)), (q5pd, .inl (cI, 60, .inl pd)), (q5cn, .inl (cI, 3, .inl cn)), (q5ig, .inl (cI, 120, .inl ig)), (q5ik, .inl (cZ, 2, .inl ik))] sz r0) 0 0 (va_A [(q5, .inr (5, [.ref q5bk, .ref q5nw, .ref q5to, .int th, .ref q5ne, .int si, .ref q5st, .int sn, .ref q5pd, .int re, .int ac, .int fa, .int fw, .ref q5cn, .ref q5ig, .ref q5ik])), (q5bk, .inl (cI, 15, .inl bk)), (q5nw, .inl (cI, 15, .inl nw)), (q5to, .inl (cI, 12, .inl to)), (q5ne, .inl (cI, 8, .inl ne)), (q5st, .inl (cI, 16, .inl st)), (q5pd, .inl (cI, 60, .inl pd)), (q5cn, .inl (cI, 3, .inl cn)), (q5ig, .inl (cI, 120, .inl ig)), (q5ik, .inl (cZ, 2, .inl ik))] sz) := by
  refine kMi (own := RX5) (ty := .int) rfl (by decide) rfl ?_ (Nat.le_of_ble_eq_true rfl)
  intro p e s m args below meth c Q A CF hK hN hA hP hD hret ls hl
  have hS : va_S A s.heap s.heap [] := va_S.rf
  obtain ⟨hx, hb, hml, hown, hts⟩ := id CF
  have hl : lv_has ls 5 [(0, .ref q5), (1, .int v1), (2, .int v2), (3, .int v3)] := hl
  unfold m_X5_part at hs
  refine lv_iload_n hx hb dX5_part_0 rfl (lv_at hl 1 rfl) ?_
  obtain ⟨r_1, hc_2, hs⟩ := ob1_e hs
  refine kpi (va_runS (As := [.int v1]) (rest := []) ⟨hx, hb, hml, hown, hts⟩ (k_X5_isPart l v1 r_1 hc_2) (va_cwS 1 hts (kGood (kgS mG_334 mG_335 mG_332 mG_329)) rfl rfl rfl hd_X5_isPart ⟨Nat.le_of_ble_eq_true rfl, Nat.le_of_ble_eq_true rfl⟩) preEq rfl rfl hl.1 rfl (lv_room (Nat.le_of_ble_eq_true rfl)) dX5_part_1 ⟨Nat.zero_le _, Nat.zero_le _⟩) ?_
  refine lv_if_ne (tgt := 9) hx hb dX5_part_4 (by decide) (fun c_3 => ?_) (fun c_3 => ?_)
  · replace hs := if_n c_3 hs
    refine lv_iload_n hx hb dX5_part_9 rfl (lv_at hl 2 rfl) ?_
    refine lv_iconst (v := 0) hx hb dX5_part_10 (by decide) ?_
    refine lv_bipush (v := 99) hx hb dX5_part_11 (by decide) ?_
    refine kpi (va_runS (As := [.int v2, .int (0 : Int32), .int (99 : Int32)]) (rest := []) ⟨hx, hb, hml, hown, hts⟩ (k_X5_in l v2 (0 : Int32) (99 : Int32) _ rfl) (va_cwS 3 hts (kGood (kgS mG_330 mG_331 mG_332 mG_326)) rfl rfl rfl hd_X5_in ⟨Nat.le_of_ble_eq_true rfl, Nat.le_of_ble_eq_true rfl⟩) preEq rfl rfl hl.1 rfl (lv_room (Nat.le_of_ble_eq_true rfl)) dX5_part_13 ⟨Nat.zero_le _, Nat.zero_le _⟩) ?_
    refine lv_if_eq (tgt := 29) hx hb dX5_part_16 (by decide) (fun c_4 => ?_) (fun c_4 => ?_)
    · replace hs := if_p c_4 hs
      refine lv_bipush (v := -2) hx hb dX5_part_29 (by decide) ?_
      cases hs
      exact hret _ _ _ _ hP hD hS (vp_nar_int _) dX5_part_31
    · replace hs := if_n c_4 hs
      refine lv_iload_n hx hb dX5_part_19 rfl (lv_at hl 3 rfl) ?_
      refine lv_iconst (v := 0) hx hb dX5_part_20 (by decide) ?_
      refine lv_bipush (v := 9) hx hb dX5_part_21 (by decide) ?_
      refine kpi (va_runS (As := [.int v3, .int (0 : Int32), .int (9 : Int32)]) (rest := []) ⟨hx, hb, hml, hown, hts⟩ (k_X5_in l v3 (0 : Int32) (9 : Int32) _ rfl) (va_cwS 3 hts (kGood (kgS mG_330 mG_331 mG_332 mG_326)) rfl rfl rfl hd_X5_in ⟨Nat.le_of_ble_eq_true rfl, Nat.le_of_ble_eq_true rfl⟩) preEq rfl rfl hl.1 rfl (lv_room (Nat.le_of_ble_eq_true rfl)) dX5_part_23 ⟨Nat.zero_le _, Nat.zero_le _⟩) ?_
      refine lv_if_ne (tgt := 32) hx hb dX5_part_26 (by decide) (fun c_5 => ?_) (fun c_5 => ?_)
      · replace hs := if_n c_5 hs
        refine lv_aload_n hx hb dX5_part_32 rfl (lv_at hl 0 rfl) ?_
        refine va_get (D := (dC, dI)) (ci := 5) (v := .ref q5bk) (C := RX5) (T := TX5) (N := 16) hx hb hts (fun w h => kg1 (iG_5 w h)) hown hK hP 0 rfl rfl 0 (by decide) (hts _ (kg1 mG_316)) (fun _ h9 => h9) rfl dX5_part_33 ?_
        refine lv_iload_n hx hb dX5_part_36 rfl (lv_at hl 1 rfl) ?_
        obtain ⟨hg_6, hs⟩ := gd_e hs
        refine kald hx hb hK hP 1 0 rfl rfl (j := (Int32.toNatClampNeg v1)) rfl (inb_e hg_6) dX5_part_37 ?_
        refine lv_istore (lv' := [(4, .int (bk (Int32.toNatClampNeg v1))), (0, .ref q5), (1, .int v1), (2, .int v2), (3, .int v3)]) hx hb dX5_part_38 hl (by decide) rfl (fun ls hl => ?_)
        refine lv_aload_n hx hb dX5_part_40 rfl (lv_at hl 1 rfl) ?_
        refine va_get (D := (dC, dI)) (ci := 5) (v := .ref q5bk) (C := RX5) (T := TX5) (N := 16) hx hb hts (fun w h => kg1 (iG_5 w h)) hown hK hP 0 rfl rfl 0 (by decide) (hts _ (kg1 mG_316)) (fun _ h9 => h9) rfl dX5_part_41 ?_
        refine lv_iload_n hx hb dX5_part_44 rfl (lv_at hl 2 rfl) ?_
        refine lv_iload_n hx hb dX5_part_45 rfl (lv_at hl 3 rfl) ?_
        refine kast hx hb hK hP hD hS 1 0 rfl rfl (j := (Int32.toNatClampNeg v1)) rfl (inb_e hg_6) dX5_part_46 (fun H locs hP hD hS => ?_)
        have hP : va_P (dC, dI) vwCl [(q5, .inr (5, [.ref q5bk, .ref q5nw, .ref q5to, .int th, .ref q5ne, .int si, .ref q5st, .int sn, .ref q5pd, .int re, .int ac, .int fa, .int fw, .ref q5cn, .ref q5ig, .ref q5ik])), (q5bk, .inl (cI, 15, .inl (upd bk (Int32.toNatClampNeg v1) v2))), (q5nw, .inl (cI, 15, .inl nw)), (q5to, .inl (cI, 12, .inl to)), (q5ne, .inl (cI, 8, .inl ne)), (q5st, .inl (cI, 16, .inl st)), (q5pd, .inl (cI, 60, .inl pd)), (q5cn, .inl (cI, 3, .inl cn)), (q5ig, .inl (cI, 120, .inl ig)), (q5ik, .inl (cZ, 2, .inl ik))] H := hP
        have hD : va_D A [(q5, .inr (5, [.ref q5bk, .ref q5nw, .ref q5to, .int th, .ref q5ne, .int si, .ref q5st, .int sn, .ref q5pd, .int re, .int ac, .int fa, .int fw, .ref q5cn, .ref q5ig, .ref q5ik])), (q5bk, .inl (cI, 15, .inl (upd bk (Int32.toNatClampNeg v1) v2))), (q5nw, .inl (cI, 15, .inl nw)), (q5to, .inl (cI, 12, .inl to)), (q5ne, .inl (cI, 8, .inl ne)), (q5st, .inl (cI, 16, .inl st)), (q5pd, .inl (cI, 60, .inl pd)), (q5cn, .inl (cI, 3, .inl cn)), (q5ig, .inl (cI, 120, .inl ig)), (q5ik, .inl (cZ, 2, .inl ik))] := hD
        refine lv_aload_n hx hb dX5_part_47 rfl (lv_at hl 1 rfl) ?_
        refine va_get (D := (dC, dI)) (ci := 5) (v := .ref q5to) (C := RX5) (T := TX5) (N := 16) hx hb hts (fun w h => kg1 (iG_5 w h)) hown hK hP 0 rfl rfl 2 (by decide) (hts _ (kg1 mG_318)) (fun _ h9 => h9) rfl dX5_part_48 ?_
        refine lv_iload_n hx hb dX5_part_51 rfl (lv_at hl 2 rfl) ?_
        refine lv_iload_n hx hb dX5_part_52 rfl (lv_at hl 4 rfl) ?_
        obtain ⟨hg_7, hs⟩ := gd_e hs
        refine kast hx hb hK hP hD hS 3 0 rfl rfl (j := (Int32.toNatClampNeg v1)) rfl (inb_e hg_7) dX5_part_53 (fun H locs hP hD hS => ?_)
        have hP : va_P (dC, dI) vwCl [(q5, .inr (5, [.ref q5bk, .ref q5nw, .ref q5to, .int th, .ref q5ne, .int si, .ref q5st, .int sn, .ref q5pd, .int re, .int ac, .int fa, .int fw, .ref q5cn, .ref q5ig, .ref q5ik])), (q5bk, .inl (cI, 15, .inl (upd bk (Int32.toNatClampNeg v1) v2))), (q5nw, .inl (cI, 15, .inl nw)), (q5to, .inl (cI, 12, .inl (upd to (Int32.toNatClampNeg v1) v3))), (q5ne, .inl (cI, 8, .inl ne)), (q5st, .inl (cI, 16, .inl st)), (q5pd, .inl (cI, 60, .inl pd)), (q5cn, .inl (cI, 3, .inl cn)), (q5ig, .inl (cI, 120, .inl ig)), (q5ik, .inl (cZ, 2, .inl ik))] H := hP
        have hD : va_D A [(q5, .inr (5, [.ref q5bk, .ref q5nw, .ref q5to, .int th, .ref q5ne, .int si, .ref q5st, .int sn, .ref q5pd, .int re, .int ac, .int fa, .int fw, .ref q5cn, .ref q5ig, .ref q5ik])), (q5bk, .inl (cI, 15, .inl (upd bk (Int32.toNatClampNeg v1) v2))), (q5nw, .inl (cI, 15, .inl nw)), (q5to, .inl (cI, 12, .inl (upd to (Int32.toNatClampNeg v1) v3))), (q5ne, .inl (cI, 8, .inl ne)), (q5st, .inl (cI, 16, .inl st)), (q5pd, .inl (cI, 60, .inl pd)), (q5cn, .inl (cI, 3, .inl cn)), (q5ig, .inl (cI, 120, .inl ig)), (q5ik, .inl (cZ, 2, .inl ik))] := hD
        refine lv_iload hx hb dX5_part_54 (lv_at hl 0 rfl) ?_
        cases hs
        exact hret _ _ _ _ hP hD hS (vp_nar_int _) dX5_part_56
      · replace hs := if_p c_5 hs
        refine lv_bipush (v := -2) hx hb dX5_part_29 (by decide) ?_
        cases hs
        exact hret _ _ _ _ hP hD hS (vp_nar_int _) dX5_part_31
  · replace hs := if_p c_3 hs
    refine lv_iconst (v := -1) hx hb dX5_part_7 (by decide) ?_
    cases hs
    exact hret _ _ _ _ hP hD hS (vp_nar_int _) dX5_part_8
abbrev rm_X5_thread : Room := { frames := 2, cells := 0, slots := 0, locals := 42 }
theorem hd_X5_thread : yX5_thread.cls ≠ "java/lang/invoke/MethodHandle" ∧ yX5_thread.cls ≠ "java/lang/invoke/VarHandle" ∧ (parseMethodDescriptor yX5_thread.desc).map (fun d => d.parameters.length) = some 2 := by decide +kernel
set_option maxHeartbeats 4000000 in
set_option maxRecDepth 100000 in
theorem k_X5_thread (l : Launch) (dC : Nat → ClassId) (dI : Nat → Nat → Nat) (cI cZ cS : ClassId) (q5 q5bk q5nw q5to q5ne q5st q5pd q5cn q5ig q5ik : Nat) (sz : Nat) (th : Int32) (si : Int32) (sn : Int32) (re : Int32) (ac : Int32) (fa : Int32) (fw : Int32) (bk : Ar) (nw : Ar) (to : Ar) (ne : Ar) (st : Ar) (pd : Ar) (cn : Ar) (ig : Ar) (ik : Ar) (v1 : Int32) (v2 : Int32) (r0 : Int32) (th_o : Int32) (hs : m_X5_thread v1 v2 th = some (r0, th_o)) : Met l yX5_thread (.code yX5_thread cX5_thread 3 (some .int) :: kG) rm_X5_thread (va_Pc [.ref q5, .int v1, .int v2] (kW (dC, dI) cI cZ cS [(q5, .inr (5, [.ref q5bk, .ref q5nw, .ref q5to, .int th, .ref q5ne, .int si, .ref q5st, .int sn, .ref q5pd, .int re, .int ac, .int fa, .int fw, .ref q5cn, .ref q5ig, .ref q5ik])), (q5bk, .inl (cI, 15, .inl bk)), (q5nw, .inl (cI, 15, .inl nw)), (q5to, .inl (cI, 12, .inl to)), (q5ne, .inl (cI, 8, .inl ne)), (q5st, .inl (cI, 16, .inl st)), (q5pd, .inl (cI, 60, .inl pd)), (q5cn, .inl (cI, 3, .inl cn)), (q5ig, .inl (cI, 120, .inl ig)), (q5ik, .inl (cZ, 2, .inl ik))] sz)) (kQi (dC, dI) [(q5, .inr (5, [.ref q5bk, .ref q5nw, .ref q5to, .int th, .ref q5ne, .int si, .ref q5st, .int sn, .ref q5pd, .int re, .int ac, .int fa, .int fw, .ref q5cn, .ref q5ig, .ref q5ik])), (q5bk, .inl (cI, 15, .inl bk)), (q5nw, .inl (cI, 15, .inl nw)), (q5to, .inl (cI, 12, .inl to)), (q5ne, .inl (cI, 8, .inl ne)), (q5st, .inl (cI, 16, .inl st)), (q5pd, .inl (cI, 60, .inl pd)), (q5cn, .inl (cI, 3, .inl cn)), (q5ig, .inl (cI, 120, .inl ig)), (q5ik, .inl (cZ, 2, .inl ik))] [(q5, .inr (5, [.ref q5bk, .ref q5nw, .ref q5to, .int th_o, .ref q5ne, .int si, .ref q5st, .int sn, .ref q5pd, .int re, .int ac, .int fa, .int fw, .ref q5cn, .ref q5ig, .ref q5ik])), (q5bk, .inl (cI, 15, .inl bk)), (q5nw, .inl (cI, 15, .inl nw)), (q5to, .inl (cI, 12, .inl to)), (q5ne, .inl (cI, 8, .inl ne)), (q5st, .inl (cI, 16, .inl st)), (q5pd, .inl (cI, 60, .inl pd)), (q5cn, .inl (cI, 3, .inl cn)), (q5ig, .inl (cI, 120, .inl ig)), (q5ik, .inl (cZ, 2, .inl ik))] sz r0) 0 0 (va_A [(q5, .inr (5, [.ref q5bk, .ref q5nw, .ref q5to, .int th, .ref q5ne, .int si, .ref q5st, .int sn, .ref q5pd, .int re, .int ac, .int fa, .int fw, .ref q5cn, .ref q5ig, .ref q5ik])), (q5bk, .inl (cI, 15, .inl bk)), (q5nw, .inl (cI, 15, .inl nw)), (q5to, .inl (cI, 12, .inl to)), (q5ne, .inl (cI, 8, .inl ne)), (q5st, .inl (cI, 16, .inl st)), (q5pd, .inl (cI, 60, .inl pd)), (q5cn, .inl (cI, 3, .inl cn)), (q5ig, .inl (cI, 120, .inl ig)), (q5ik, .inl (cZ, 2, .inl ik))] sz) := by
  refine kMi (own := RX5) (ty := .int) rfl (by decide) rfl ?_ (Nat.le_of_ble_eq_true rfl)
  intro p e s m args below meth c Q A CF hK hN hA hP hD hret ls hl
  have hS : va_S A s.heap s.heap [] := va_S.rf
  obtain ⟨hx, hb, hml, hown, hts⟩ := id CF
  have hl : lv_has ls 3 [(0, .ref q5), (1, .int v1), (2, .int v2)] := hl
  unfold m_X5_thread at hs
  refine lv_iload_n hx hb dX5_thread_0 rfl (lv_at hl 1 rfl) ?_
  obtain ⟨r_1, hc_2, hs⟩ := ob1_e hs
  refine kpi (va_runS (As := [.int v1]) (rest := []) ⟨hx, hb, hml, hown, hts⟩ (k_X5_isPart l v1 r_1 hc_2) (va_cwS 1 hts (kGood (kgS mG_334 mG_335 mG_332 mG_329)) rfl rfl rfl hd_X5_isPart ⟨Nat.le_of_ble_eq_true rfl, Nat.le_of_ble_eq_true rfl⟩) preEq rfl rfl hl.1 rfl (lv_room (Nat.le_of_ble_eq_true rfl)) dX5_thread_1 ⟨Nat.zero_le _, Nat.zero_le _⟩) ?_
  refine lv_if_ne (tgt := 9) hx hb dX5_thread_4 (by decide) (fun c_3 => ?_) (fun c_3 => ?_)
  · replace hs := if_n c_3 hs
    refine lv_aload_n hx hb dX5_thread_9 rfl (lv_at hl 0 rfl) ?_
    refine lv_dup hx hb dX5_thread_10 rfl ?_
    refine va_get (D := (dC, dI)) (ci := 5) (v := .int th) (C := RX5) (T := TX5) (N := 16) hx hb hts (fun w h => kg1 (iG_5 w h)) hown hK hP 0 rfl rfl 3 (by decide) (hts _ (kg1 mG_337)) (fun _ h9 => h9) rfl dX5_thread_11 ?_
    refine lv_iconst (v := 1) hx hb dX5_thread_14 (by decide) ?_
    refine lv_iload_n hx hb dX5_thread_15 rfl (lv_at hl 1 rfl) ?_
    refine lv_ishl hx hb dX5_thread_16 ?_
    refine lv_iconst (v := -1) hx hb dX5_thread_17 (by decide) ?_
    refine lv_ixor hx hb dX5_thread_18 ?_
    refine lv_iand hx hb dX5_thread_19 ?_
    refine va_put (D := (dC, dI)) (ci := 5) (v := .int (th &&& (((1 : Int32) <<< (v1 &&& 31)) ^^^ (-1 : Int32)))) (ty := .int) (C := RX5) (T := TX5) (N := 16) hx hb hts (fun w h => kg1 (iG_5 w h)) tyX5 tyX5_ok nmX5 hown hK hP hD hS 0 rfl rfl 3 (by decide) (hts _ (kg1 mG_337)) (fun _ h9 => h9) rfl rfl rfl rfl (Nat.le_of_ble_eq_true rfl) dX5_thread_20 (fun H locs hP hD hS => ?_)
    have hP : va_P (dC, dI) vwCl [(q5, .inr (5, [.ref q5bk, .ref q5nw, .ref q5to, .int (th &&& (((1 : Int32) <<< (v1 &&& 31)) ^^^ (-1 : Int32))), .ref q5ne, .int si, .ref q5st, .int sn, .ref q5pd, .int re, .int ac, .int fa, .int fw, .ref q5cn, .ref q5ig, .ref q5ik])), (q5bk, .inl (cI, 15, .inl bk)), (q5nw, .inl (cI, 15, .inl nw)), (q5to, .inl (cI, 12, .inl to)), (q5ne, .inl (cI, 8, .inl ne)), (q5st, .inl (cI, 16, .inl st)), (q5pd, .inl (cI, 60, .inl pd)), (q5cn, .inl (cI, 3, .inl cn)), (q5ig, .inl (cI, 120, .inl ig)), (q5ik, .inl (cZ, 2, .inl ik))] H := hP
    have hD : va_D A [(q5, .inr (5, [.ref q5bk, .ref q5nw, .ref q5to, .int (th &&& (((1 : Int32) <<< (v1 &&& 31)) ^^^ (-1 : Int32))), .ref q5ne, .int si, .ref q5st, .int sn, .ref q5pd, .int re, .int ac, .int fa, .int fw, .ref q5cn, .ref q5ig, .ref q5ik])), (q5bk, .inl (cI, 15, .inl bk)), (q5nw, .inl (cI, 15, .inl nw)), (q5to, .inl (cI, 12, .inl to)), (q5ne, .inl (cI, 8, .inl ne)), (q5st, .inl (cI, 16, .inl st)), (q5pd, .inl (cI, 60, .inl pd)), (q5cn, .inl (cI, 3, .inl cn)), (q5ig, .inl (cI, 120, .inl ig)), (q5ik, .inl (cZ, 2, .inl ik))] := hD
    refine lv_aload_n hx hb dX5_thread_23 rfl (lv_at hl 0 rfl) ?_
    refine lv_dup hx hb dX5_thread_24 rfl ?_
    refine va_get (D := (dC, dI)) (ci := 5) (v := .int (th &&& (((1 : Int32) <<< (v1 &&& 31)) ^^^ (-1 : Int32)))) (C := RX5) (T := TX5) (N := 16) hx hb hts (fun w h => kg1 (iG_5 w h)) hown hK hP 0 rfl rfl 3 (by decide) (hts _ (kg1 mG_337)) (fun _ h9 => h9) rfl dX5_thread_25 ?_
    refine lv_iload_n hx hb dX5_thread_28 rfl (lv_at hl 2 rfl) ?_
    have hJ_39 : ∀ (s39_0 : Int32) (s39_1 : Int32) (th : Int32) (H : Heap) (locs : List Loc) (ls : Array Slot), va_P (dC, dI) vwCl [(q5, .inr (5, [.ref q5bk, .ref q5nw, .ref q5to, .int th, .ref q5ne, .int si, .ref q5st, .int sn, .ref q5pd, .int re, .int ac, .int fa, .int fw, .ref q5cn, .ref q5ig, .ref q5ik])), (q5bk, .inl (cI, 15, .inl bk)), (q5nw, .inl (cI, 15, .inl nw)), (q5to, .inl (cI, 12, .inl to)), (q5ne, .inl (cI, 8, .inl ne)), (q5st, .inl (cI, 16, .inl st)), (q5pd, .inl (cI, 60, .inl pd)), (q5cn, .inl (cI, 3, .inl cn)), (q5ig, .inl (cI, 120, .inl ig)), (q5ik, .inl (cZ, 2, .inl ik))] H → va_D A [(q5, .inr (5, [.ref q5bk, .ref q5nw, .ref q5to, .int th, .ref q5ne, .int si, .ref q5st, .int sn, .ref q5pd, .int re, .int ac, .int fa, .int fw, .ref q5cn, .ref q5ig, .ref q5ik])), (q5bk, .inl (cI, 15, .inl bk)), (q5nw, .inl (cI, 15, .inl nw)), (q5to, .inl (cI, 12, .inl to)), (q5ne, .inl (cI, 8, .inl ne)), (q5st, .inl (cI, 16, .inl st)), (q5pd, .inl (cI, 60, .inl pd)), (q5cn, .inl (cI, 3, .inl cn)), (q5ig, .inl (cI, 120, .inl ig)), (q5ik, .inl (cZ, 2, .inl ik))] → va_S A s.heap H locs → lv_has ls 3 [(0, .ref q5)] → j_X5_thread_39 s39_0 s39_1 = some (r0, th_o) → W p l e rm_X5_thread s m args below meth c H locs 0 0 Q (F0 m 39 ls [.int s39_0, .int s39_1, .ref q5]) := by
      intro s39_0 s39_1 th H locs ls hP hD hS hl hs
      unfold j_X5_thread_39 at hs
      refine lv_ior hx hb dX5_thread_39 ?_
      refine va_put (D := (dC, dI)) (ci := 5) (v := .int (s39_1 ||| s39_0)) (ty := .int) (C := RX5) (T := TX5) (N := 16) hx hb hts (fun w h => kg1 (iG_5 w h)) tyX5 tyX5_ok nmX5 hown hK hP hD hS 0 rfl rfl 3 (by decide) (hts _ (kg1 mG_337)) (fun _ h9 => h9) rfl rfl rfl rfl (Nat.le_of_ble_eq_true rfl) dX5_thread_40 (fun H locs hP hD hS => ?_)
      have hP : va_P (dC, dI) vwCl [(q5, .inr (5, [.ref q5bk, .ref q5nw, .ref q5to, .int (s39_1 ||| s39_0), .ref q5ne, .int si, .ref q5st, .int sn, .ref q5pd, .int re, .int ac, .int fa, .int fw, .ref q5cn, .ref q5ig, .ref q5ik])), (q5bk, .inl (cI, 15, .inl bk)), (q5nw, .inl (cI, 15, .inl nw)), (q5to, .inl (cI, 12, .inl to)), (q5ne, .inl (cI, 8, .inl ne)), (q5st, .inl (cI, 16, .inl st)), (q5pd, .inl (cI, 60, .inl pd)), (q5cn, .inl (cI, 3, .inl cn)), (q5ig, .inl (cI, 120, .inl ig)), (q5ik, .inl (cZ, 2, .inl ik))] H := hP
      have hD : va_D A [(q5, .inr (5, [.ref q5bk, .ref q5nw, .ref q5to, .int (s39_1 ||| s39_0), .ref q5ne, .int si, .ref q5st, .int sn, .ref q5pd, .int re, .int ac, .int fa, .int fw, .ref q5cn, .ref q5ig, .ref q5ik])), (q5bk, .inl (cI, 15, .inl bk)), (q5nw, .inl (cI, 15, .inl nw)), (q5to, .inl (cI, 12, .inl to)), (q5ne, .inl (cI, 8, .inl ne)), (q5st, .inl (cI, 16, .inl st)), (q5pd, .inl (cI, 60, .inl pd)), (q5cn, .inl (cI, 3, .inl cn)), (q5ig, .inl (cI, 120, .inl ig)), (q5ik, .inl (cZ, 2, .inl ik))] := hD
      refine lv_aload_n hx hb dX5_thread_43 rfl (lv_at hl 0 rfl) ?_
      refine va_get (D := (dC, dI)) (ci := 5) (v := .int (s39_1 ||| s39_0)) (C := RX5) (T := TX5) (N := 16) hx hb hts (fun w h => kg1 (iG_5 w h)) hown hK hP 0 rfl rfl 3 (by decide) (hts _ (kg1 mG_337)) (fun _ h9 => h9) rfl dX5_thread_44 ?_
      obtain ⟨r_5, hc_6, hs⟩ := ob1_e hs
      refine kpi (va_runS (As := [.int (s39_1 ||| s39_0)]) (rest := []) ⟨hx, hb, hml, hown, hts⟩ (k_X5_bits l (s39_1 ||| s39_0) r_5 hc_6) (va_cwS 1 hts (kGood (kgS mG_338 mG_339 mG_332 mG_328)) rfl rfl rfl hd_X5_bits ⟨Nat.le_of_ble_eq_true rfl, Nat.le_of_ble_eq_true rfl⟩) preEq rfl rfl hl.1 rfl (lv_room (Nat.le_of_ble_eq_true rfl)) dX5_thread_47 ⟨Nat.zero_le _, Nat.zero_le _⟩) ?_
      cases hs
      exact hret _ _ _ _ hP hD hS (vp_nar_int _) dX5_thread_50
    refine lv_if_eq (tgt := 38) hx hb dX5_thread_29 (by decide) (fun c_4 => ?_) (fun c_4 => ?_)
    · replace hs := if_p c_4 hs
      refine lv_iconst (v := 0) hx hb dX5_thread_38 (by decide) ?_
      exact hJ_39 (0 : Int32) (th &&& (((1 : Int32) <<< (v1 &&& 31)) ^^^ (-1 : Int32))) (th &&& (((1 : Int32) <<< (v1 &&& 31)) ^^^ (-1 : Int32))) _ _ _ hP hD hS (lv_sub hl [0] rfl) hs
    · replace hs := if_n c_4 hs
      refine lv_iconst (v := 1) hx hb dX5_thread_32 (by decide) ?_
      refine lv_iload_n hx hb dX5_thread_33 rfl (lv_at hl 1 rfl) ?_
      refine lv_ishl hx hb dX5_thread_34 ?_
      refine lv_goto (tgt := 39) hx hb dX5_thread_35 (by decide) ?_
      exact hJ_39 ((1 : Int32) <<< (v1 &&& 31)) (th &&& (((1 : Int32) <<< (v1 &&& 31)) ^^^ (-1 : Int32))) (th &&& (((1 : Int32) <<< (v1 &&& 31)) ^^^ (-1 : Int32))) _ _ _ hP hD hS (lv_sub hl [0] rfl) hs
  · replace hs := if_p c_3 hs
    refine lv_iconst (v := -1) hx hb dX5_thread_7 (by decide) ?_
    cases hs
    exact hret _ _ _ _ hP hD hS (vp_nar_int _) dX5_thread_8
abbrev rm_X5_set : Room := { frames := 1, cells := 0, slots := 0, locals := 22 }
theorem hd_X5_set : yX5_set.cls ≠ "java/lang/invoke/MethodHandle" ∧ yX5_set.cls ≠ "java/lang/invoke/VarHandle" ∧ (parseMethodDescriptor yX5_set.desc).map (fun d => d.parameters.length) = some 2 := by decide +kernel
set_option maxHeartbeats 4000000 in
set_option maxRecDepth 100000 in
theorem k_X5_set (l : Launch) (dC : Nat → ClassId) (dI : Nat → Nat → Nat) (cI cZ cS : ClassId) (q5 q5bk q5nw q5to q5ne q5st q5pd q5cn q5ig q5ik : Nat) (sz : Nat) (th : Int32) (si : Int32) (sn : Int32) (re : Int32) (ac : Int32) (fa : Int32) (fw : Int32) (bk : Ar) (nw : Ar) (to : Ar) (ne : Ar) (st : Ar) (pd : Ar) (cn : Ar) (ig : Ar) (ik : Ar) (v1 : Int32) (v2 : Int32) (r0 : Int32) (bk_o : Ar) (hs : m_X5_set v1 v2 bk = some (r0, bk_o)) : Met l yX5_set (.code yX5_set cX5_set 5 (some .int) :: kG) rm_X5_set (va_Pc [.ref q5, .int v1, .int v2] (kW (dC, dI) cI cZ cS [(q5, .inr (5, [.ref q5bk, .ref q5nw, .ref q5to, .int th, .ref q5ne, .int si, .ref q5st, .int sn, .ref q5pd, .int re, .int ac, .int fa, .int fw, .ref q5cn, .ref q5ig, .ref q5ik])), (q5bk, .inl (cI, 15, .inl bk)), (q5nw, .inl (cI, 15, .inl nw)), (q5to, .inl (cI, 12, .inl to)), (q5ne, .inl (cI, 8, .inl ne)), (q5st, .inl (cI, 16, .inl st)), (q5pd, .inl (cI, 60, .inl pd)), (q5cn, .inl (cI, 3, .inl cn)), (q5ig, .inl (cI, 120, .inl ig)), (q5ik, .inl (cZ, 2, .inl ik))] sz)) (kQi (dC, dI) [(q5, .inr (5, [.ref q5bk, .ref q5nw, .ref q5to, .int th, .ref q5ne, .int si, .ref q5st, .int sn, .ref q5pd, .int re, .int ac, .int fa, .int fw, .ref q5cn, .ref q5ig, .ref q5ik])), (q5bk, .inl (cI, 15, .inl bk)), (q5nw, .inl (cI, 15, .inl nw)), (q5to, .inl (cI, 12, .inl to)), (q5ne, .inl (cI, 8, .inl ne)), (q5st, .inl (cI, 16, .inl st)), (q5pd, .inl (cI, 60, .inl pd)), (q5cn, .inl (cI, 3, .inl cn)), (q5ig, .inl (cI, 120, .inl ig)), (q5ik, .inl (cZ, 2, .inl ik))] [(q5, .inr (5, [.ref q5bk, .ref q5nw, .ref q5to, .int th, .ref q5ne, .int si, .ref q5st, .int sn, .ref q5pd, .int re, .int ac, .int fa, .int fw, .ref q5cn, .ref q5ig, .ref q5ik])), (q5bk, .inl (cI, 15, .inl bk_o)), (q5nw, .inl (cI, 15, .inl nw)), (q5to, .inl (cI, 12, .inl to)), (q5ne, .inl (cI, 8, .inl ne)), (q5st, .inl (cI, 16, .inl st)), (q5pd, .inl (cI, 60, .inl pd)), (q5cn, .inl (cI, 3, .inl cn)), (q5ig, .inl (cI, 120, .inl ig)), (q5ik, .inl (cZ, 2, .inl ik))] sz r0) 0 0 (va_A [(q5, .inr (5, [.ref q5bk, .ref q5nw, .ref q5to, .int th, .ref q5ne, .int si, .ref q5st, .int sn, .ref q5pd, .int re, .int ac, .int fa, .int fw, .ref q5cn, .ref q5ig, .ref q5ik])), (q5bk, .inl (cI, 15, .inl bk)), (q5nw, .inl (cI, 15, .inl nw)), (q5to, .inl (cI, 12, .inl to)), (q5ne, .inl (cI, 8, .inl ne)), (q5st, .inl (cI, 16, .inl st)), (q5pd, .inl (cI, 60, .inl pd)), (q5cn, .inl (cI, 3, .inl cn)), (q5ig, .inl (cI, 120, .inl ig)), (q5ik, .inl (cZ, 2, .inl ik))] sz) := by
  refine kMi (own := RX5) (ty := .int) rfl (by decide) rfl ?_ (Nat.le_of_ble_eq_true rfl)
  intro p e s m args below meth c Q A CF hK hN hA hP hD hret ls hl
  have hS : va_S A s.heap s.heap [] := va_S.rf
  obtain ⟨hx, hb, hml, hown, hts⟩ := id CF
  have hl : lv_has ls 5 [(0, .ref q5), (1, .int v1), (2, .int v2)] := hl
  unfold m_X5_set at hs
  refine lv_iload_n hx hb dX5_set_0 rfl (lv_at hl 1 rfl) ?_
  refine lv_iconst (v := 1) hx hb dX5_set_1 (by decide) ?_
  have hJ_39 : ∀ (s39_0 : Int32) (bk : Ar) (H : Heap) (locs : List Loc) (ls : Array Slot), va_P (dC, dI) vwCl [(q5, .inr (5, [.ref q5bk, .ref q5nw, .ref q5to, .int th, .ref q5ne, .int si, .ref q5st, .int sn, .ref q5pd, .int re, .int ac, .int fa, .int fw, .ref q5cn, .ref q5ig, .ref q5ik])), (q5bk, .inl (cI, 15, .inl bk)), (q5nw, .inl (cI, 15, .inl nw)), (q5to, .inl (cI, 12, .inl to)), (q5ne, .inl (cI, 8, .inl ne)), (q5st, .inl (cI, 16, .inl st)), (q5pd, .inl (cI, 60, .inl pd)), (q5cn, .inl (cI, 3, .inl cn)), (q5ig, .inl (cI, 120, .inl ig)), (q5ik, .inl (cZ, 2, .inl ik))] H → va_D A [(q5, .inr (5, [.ref q5bk, .ref q5nw, .ref q5to, .int th, .ref q5ne, .int si, .ref q5st, .int sn, .ref q5pd, .int re, .int ac, .int fa, .int fw, .ref q5cn, .ref q5ig, .ref q5ik])), (q5bk, .inl (cI, 15, .inl bk)), (q5nw, .inl (cI, 15, .inl nw)), (q5to, .inl (cI, 12, .inl to)), (q5ne, .inl (cI, 8, .inl ne)), (q5st, .inl (cI, 16, .inl st)), (q5pd, .inl (cI, 60, .inl pd)), (q5cn, .inl (cI, 3, .inl cn)), (q5ig, .inl (cI, 120, .inl ig)), (q5ik, .inl (cZ, 2, .inl ik))] → va_S A s.heap H locs → lv_has ls 5 [(0, .ref q5), (1, .int v1), (2, .int v2)] → j_X5_set_39 v1 v2 s39_0 bk = some (r0, bk_o) → W p l e rm_X5_set s m args below meth c H locs 0 0 Q (F0 m 39 ls [.int s39_0]) := by
    intro s39_0 bk H locs ls hP hD hS hl hs
    unfold j_X5_set_39 at hs
    refine lv_istore_n (lv' := [(3, .int s39_0), (0, .ref q5), (1, .int v1), (2, .int v2)]) hx hb dX5_set_39 rfl hl (by decide) rfl (fun ls hl => ?_)
    refine lv_iload_n hx hb dX5_set_40 rfl (lv_at hl 0 rfl) ?_
    refine lv_if_ne (tgt := 47) hx hb dX5_set_41 (by decide) (fun c_4 => ?_) (fun c_4 => ?_)
    · replace hs := if_n c_4 hs
      refine lv_aload_n hx hb dX5_set_47 rfl (lv_at hl 1 rfl) ?_
      refine va_get (D := (dC, dI)) (ci := 5) (v := .ref q5bk) (C := RX5) (T := TX5) (N := 16) hx hb hts (fun w h => kg1 (iG_5 w h)) hown hK hP 0 rfl rfl 0 (by decide) (hts _ (kg1 mG_316)) (fun _ h9 => h9) rfl dX5_set_48 ?_
      refine lv_bipush (v := 12) hx hb dX5_set_51 (by decide) ?_
      refine lv_iload_n hx hb dX5_set_53 rfl (lv_at hl 2 rfl) ?_
      refine lv_iadd hx hb dX5_set_54 ?_
      obtain ⟨hg_5, hs⟩ := gd_e hs
      refine kald hx hb hK hP 1 0 rfl rfl (j := (Int32.toNatClampNeg ((12 : Int32) + v1))) rfl (inb_e hg_5) dX5_set_55 ?_
      refine lv_istore (lv' := [(4, .int (bk (Int32.toNatClampNeg ((12 : Int32) + v1)))), (3, .int s39_0), (0, .ref q5), (1, .int v1), (2, .int v2)]) hx hb dX5_set_56 hl (by decide) rfl (fun ls hl => ?_)
      refine lv_aload_n hx hb dX5_set_58 rfl (lv_at hl 2 rfl) ?_
      refine va_get (D := (dC, dI)) (ci := 5) (v := .ref q5bk) (C := RX5) (T := TX5) (N := 16) hx hb hts (fun w h => kg1 (iG_5 w h)) hown hK hP 0 rfl rfl 0 (by decide) (hts _ (kg1 mG_316)) (fun _ h9 => h9) rfl dX5_set_59 ?_
      refine lv_bipush (v := 12) hx hb dX5_set_62 (by decide) ?_
      refine lv_iload_n hx hb dX5_set_64 rfl (lv_at hl 3 rfl) ?_
      refine lv_iadd hx hb dX5_set_65 ?_
      refine lv_iload_n hx hb dX5_set_66 rfl (lv_at hl 4 rfl) ?_
      refine kast hx hb hK hP hD hS 1 0 rfl rfl (j := (Int32.toNatClampNeg ((12 : Int32) + v1))) rfl (inb_e hg_5) dX5_set_67 (fun H locs hP hD hS => ?_)
      have hP : va_P (dC, dI) vwCl [(q5, .inr (5, [.ref q5bk, .ref q5nw, .ref q5to, .int th, .ref q5ne, .int si, .ref q5st, .int sn, .ref q5pd, .int re, .int ac, .int fa, .int fw, .ref q5cn, .ref q5ig, .ref q5ik])), (q5bk, .inl (cI, 15, .inl (upd bk (Int32.toNatClampNeg ((12 : Int32) + v1)) v2))), (q5nw, .inl (cI, 15, .inl nw)), (q5to, .inl (cI, 12, .inl to)), (q5ne, .inl (cI, 8, .inl ne)), (q5st, .inl (cI, 16, .inl st)), (q5pd, .inl (cI, 60, .inl pd)), (q5cn, .inl (cI, 3, .inl cn)), (q5ig, .inl (cI, 120, .inl ig)), (q5ik, .inl (cZ, 2, .inl ik))] H := hP
      have hD : va_D A [(q5, .inr (5, [.ref q5bk, .ref q5nw, .ref q5to, .int th, .ref q5ne, .int si, .ref q5st, .int sn, .ref q5pd, .int re, .int ac, .int fa, .int fw, .ref q5cn, .ref q5ig, .ref q5ik])), (q5bk, .inl (cI, 15, .inl (upd bk (Int32.toNatClampNeg ((12 : Int32) + v1)) v2))), (q5nw, .inl (cI, 15, .inl nw)), (q5to, .inl (cI, 12, .inl to)), (q5ne, .inl (cI, 8, .inl ne)), (q5st, .inl (cI, 16, .inl st)), (q5pd, .inl (cI, 60, .inl pd)), (q5cn, .inl (cI, 3, .inl cn)), (q5ig, .inl (cI, 120, .inl ig)), (q5ik, .inl (cZ, 2, .inl ik))] := hD
      refine lv_iload hx hb dX5_set_68 (lv_at hl 0 rfl) ?_
      cases hs
      exact hret _ _ _ _ hP hD hS (vp_nar_int _) dX5_set_70
    · replace hs := if_p c_4 hs
      refine lv_bipush (v := -2) hx hb dX5_set_44 (by decide) ?_
      cases hs
      exact hret _ _ _ _ hP hD hS (vp_nar_int _) dX5_set_46
  refine lv_icmp_ne (tgt := 15) hx hb dX5_set_2 (by decide) (fun c_1 => ?_) (fun c_1 => ?_)
  · replace hs := if_n c_1 hs
    refine lv_iload_n hx hb dX5_set_15 rfl (lv_at hl 1 rfl) ?_
    refine lv_iconst (v := 0) hx hb dX5_set_16 (by decide) ?_
    refine lv_iconst (v := 2) hx hb dX5_set_17 (by decide) ?_
    refine kpi (va_runS (As := [.int v1, .int (0 : Int32), .int (2 : Int32)]) (rest := []) ⟨hx, hb, hml, hown, hts⟩ (k_X5_in l v1 (0 : Int32) (2 : Int32) _ rfl) (va_cwS 3 hts (kGood (kgS mG_330 mG_331 mG_332 mG_326)) rfl rfl rfl hd_X5_in ⟨Nat.le_of_ble_eq_true rfl, Nat.le_of_ble_eq_true rfl⟩) preEq rfl rfl hl.1 rfl (lv_room (Nat.le_of_ble_eq_true rfl)) dX5_set_18 ⟨Nat.zero_le _, Nat.zero_le _⟩) ?_
    refine lv_if_eq (tgt := 38) hx hb dX5_set_21 (by decide) (fun c_2 => ?_) (fun c_2 => ?_)
    · replace hs := if_p c_2 hs
      refine lv_iconst (v := 0) hx hb dX5_set_38 (by decide) ?_
      exact hJ_39 (0 : Int32) bk _ _ _ hP hD hS (lv_sub hl [0, 1, 2] rfl) hs
    · replace hs := if_n c_2 hs
      refine lv_iload_n hx hb dX5_set_24 rfl (lv_at hl 2 rfl) ?_
      refine lv_iconst (v := 0) hx hb dX5_set_25 (by decide) ?_
      refine lv_bipush (v := 99) hx hb dX5_set_26 (by decide) ?_
      refine kpi (va_runS (As := [.int v2, .int (0 : Int32), .int (99 : Int32)]) (rest := []) ⟨hx, hb, hml, hown, hts⟩ (k_X5_in l v2 (0 : Int32) (99 : Int32) _ rfl) (va_cwS 3 hts (kGood (kgS mG_330 mG_331 mG_332 mG_326)) rfl rfl rfl hd_X5_in ⟨Nat.le_of_ble_eq_true rfl, Nat.le_of_ble_eq_true rfl⟩) preEq rfl rfl hl.1 rfl (lv_room (Nat.le_of_ble_eq_true rfl)) dX5_set_28 ⟨Nat.zero_le _, Nat.zero_le _⟩) ?_
      refine lv_if_eq (tgt := 38) hx hb dX5_set_31 (by decide) (fun c_3 => ?_) (fun c_3 => ?_)
      · replace hs := if_p c_3 hs
        refine lv_iconst (v := 0) hx hb dX5_set_38 (by decide) ?_
        exact hJ_39 (0 : Int32) bk _ _ _ hP hD hS (lv_sub hl [0, 1, 2] rfl) hs
      · replace hs := if_n c_3 hs
        refine lv_iconst (v := 1) hx hb dX5_set_34 (by decide) ?_
        refine lv_goto (tgt := 39) hx hb dX5_set_35 (by decide) ?_
        exact hJ_39 (1 : Int32) bk _ _ _ hP hD hS (lv_sub hl [0, 1, 2] rfl) hs
  · replace hs := if_p c_1 hs
    refine lv_iload_n hx hb dX5_set_5 rfl (lv_at hl 2 rfl) ?_
    refine lv_iconst (v := 0) hx hb dX5_set_6 (by decide) ?_
    refine lv_bipush (v := 12) hx hb dX5_set_7 (by decide) ?_
    refine kpi (va_runS (As := [.int v2, .int (0 : Int32), .int (12 : Int32)]) (rest := []) ⟨hx, hb, hml, hown, hts⟩ (k_X5_in l v2 (0 : Int32) (12 : Int32) _ rfl) (va_cwS 3 hts (kGood (kgS mG_330 mG_331 mG_332 mG_326)) rfl rfl rfl hd_X5_in ⟨Nat.le_of_ble_eq_true rfl, Nat.le_of_ble_eq_true rfl⟩) preEq rfl rfl hl.1 rfl (lv_room (Nat.le_of_ble_eq_true rfl)) dX5_set_9 ⟨Nat.zero_le _, Nat.zero_le _⟩) ?_
    refine lv_goto (tgt := 39) hx hb dX5_set_12 (by decide) ?_
    exact hJ_39 (m_X5_in v2 (0 : Int32) (12 : Int32)) bk _ _ _ hP hD hS (lv_sub hl [0, 1, 2] rfl) hs
abbrev rm_X5_man : Room := { frames := 1, cells := 0, slots := 0, locals := 22 }
theorem hd_X5_man : yX5_man.cls ≠ "java/lang/invoke/MethodHandle" ∧ yX5_man.cls ≠ "java/lang/invoke/VarHandle" ∧ (parseMethodDescriptor yX5_man.desc).map (fun d => d.parameters.length) = some 2 := by decide +kernel
set_option maxHeartbeats 4000000 in
set_option maxRecDepth 100000 in
theorem k_X5_man (l : Launch) (dC : Nat → ClassId) (dI : Nat → Nat → Nat) (cI cZ cS : ClassId) (q5 q5bk q5nw q5to q5ne q5st q5pd q5cn q5ig q5ik : Nat) (sz : Nat) (th : Int32) (si : Int32) (sn : Int32) (re : Int32) (ac : Int32) (fa : Int32) (fw : Int32) (bk : Ar) (nw : Ar) (to : Ar) (ne : Ar) (st : Ar) (pd : Ar) (cn : Ar) (ig : Ar) (ik : Ar) (v1 : Int32) (v2 : Int32) (r0 : Int32) (ne_o : Ar) (hs : m_X5_man v1 v2 ne = some (r0, ne_o)) : Met l yX5_man (.code yX5_man cX5_man 4 (some .int) :: kG) rm_X5_man (va_Pc [.ref q5, .int v1, .int v2] (kW (dC, dI) cI cZ cS [(q5, .inr (5, [.ref q5bk, .ref q5nw, .ref q5to, .int th, .ref q5ne, .int si, .ref q5st, .int sn, .ref q5pd, .int re, .int ac, .int fa, .int fw, .ref q5cn, .ref q5ig, .ref q5ik])), (q5bk, .inl (cI, 15, .inl bk)), (q5nw, .inl (cI, 15, .inl nw)), (q5to, .inl (cI, 12, .inl to)), (q5ne, .inl (cI, 8, .inl ne)), (q5st, .inl (cI, 16, .inl st)), (q5pd, .inl (cI, 60, .inl pd)), (q5cn, .inl (cI, 3, .inl cn)), (q5ig, .inl (cI, 120, .inl ig)), (q5ik, .inl (cZ, 2, .inl ik))] sz)) (kQi (dC, dI) [(q5, .inr (5, [.ref q5bk, .ref q5nw, .ref q5to, .int th, .ref q5ne, .int si, .ref q5st, .int sn, .ref q5pd, .int re, .int ac, .int fa, .int fw, .ref q5cn, .ref q5ig, .ref q5ik])), (q5bk, .inl (cI, 15, .inl bk)), (q5nw, .inl (cI, 15, .inl nw)), (q5to, .inl (cI, 12, .inl to)), (q5ne, .inl (cI, 8, .inl ne)), (q5st, .inl (cI, 16, .inl st)), (q5pd, .inl (cI, 60, .inl pd)), (q5cn, .inl (cI, 3, .inl cn)), (q5ig, .inl (cI, 120, .inl ig)), (q5ik, .inl (cZ, 2, .inl ik))] [(q5, .inr (5, [.ref q5bk, .ref q5nw, .ref q5to, .int th, .ref q5ne, .int si, .ref q5st, .int sn, .ref q5pd, .int re, .int ac, .int fa, .int fw, .ref q5cn, .ref q5ig, .ref q5ik])), (q5bk, .inl (cI, 15, .inl bk)), (q5nw, .inl (cI, 15, .inl nw)), (q5to, .inl (cI, 12, .inl to)), (q5ne, .inl (cI, 8, .inl ne_o)), (q5st, .inl (cI, 16, .inl st)), (q5pd, .inl (cI, 60, .inl pd)), (q5cn, .inl (cI, 3, .inl cn)), (q5ig, .inl (cI, 120, .inl ig)), (q5ik, .inl (cZ, 2, .inl ik))] sz r0) 0 0 (va_A [(q5, .inr (5, [.ref q5bk, .ref q5nw, .ref q5to, .int th, .ref q5ne, .int si, .ref q5st, .int sn, .ref q5pd, .int re, .int ac, .int fa, .int fw, .ref q5cn, .ref q5ig, .ref q5ik])), (q5bk, .inl (cI, 15, .inl bk)), (q5nw, .inl (cI, 15, .inl nw)), (q5to, .inl (cI, 12, .inl to)), (q5ne, .inl (cI, 8, .inl ne)), (q5st, .inl (cI, 16, .inl st)), (q5pd, .inl (cI, 60, .inl pd)), (q5cn, .inl (cI, 3, .inl cn)), (q5ig, .inl (cI, 120, .inl ig)), (q5ik, .inl (cZ, 2, .inl ik))] sz) := by
  refine kMi (own := RX5) (ty := .int) rfl (by decide) rfl ?_ (Nat.le_of_ble_eq_true rfl)
  intro p e s m args below meth c Q A CF hK hN hA hP hD hret ls hl
  have hS : va_S A s.heap s.heap [] := va_S.rf
  obtain ⟨hx, hb, hml, hown, hts⟩ := id CF
  have hl : lv_has ls 4 [(0, .ref q5), (1, .int v1), (2, .int v2)] := hl
  unfold m_X5_man at hs
  refine lv_iload_n hx hb dX5_man_0 rfl (lv_at hl 1 rfl) ?_
  refine lv_iconst (v := 0) hx hb dX5_man_1 (by decide) ?_
  refine lv_bipush (v := 7) hx hb dX5_man_2 (by decide) ?_
  refine kpi (va_runS (As := [.int v1, .int (0 : Int32), .int (7 : Int32)]) (rest := []) ⟨hx, hb, hml, hown, hts⟩ (k_X5_in l v1 (0 : Int32) (7 : Int32) _ rfl) (va_cwS 3 hts (kGood (kgS mG_330 mG_331 mG_332 mG_326)) rfl rfl rfl hd_X5_in ⟨Nat.le_of_ble_eq_true rfl, Nat.le_of_ble_eq_true rfl⟩) preEq rfl rfl hl.1 rfl (lv_room (Nat.le_of_ble_eq_true rfl)) dX5_man_4 ⟨Nat.zero_le _, Nat.zero_le _⟩) ?_
  refine lv_if_ne (tgt := 12) hx hb dX5_man_7 (by decide) (fun c_1 => ?_) (fun c_1 => ?_)
  · replace hs := if_n c_1 hs
    refine lv_iload_n hx hb dX5_man_12 rfl (lv_at hl 2 rfl) ?_
    refine lv_iconst (v := 0) hx hb dX5_man_13 (by decide) ?_
    refine lv_bipush (v := 8) hx hb dX5_man_14 (by decide) ?_
    refine kpi (va_runS (As := [.int v2, .int (0 : Int32), .int (8 : Int32)]) (rest := []) ⟨hx, hb, hml, hown, hts⟩ (k_X5_in l v2 (0 : Int32) (8 : Int32) _ rfl) (va_cwS 3 hts (kGood (kgS mG_330 mG_331 mG_332 mG_326)) rfl rfl rfl hd_X5_in ⟨Nat.le_of_ble_eq_true rfl, Nat.le_of_ble_eq_true rfl⟩) preEq rfl rfl hl.1 rfl (lv_room (Nat.le_of_ble_eq_true rfl)) dX5_man_16 ⟨Nat.zero_le _, Nat.zero_le _⟩) ?_
    refine lv_if_ne (tgt := 25) hx hb dX5_man_19 (by decide) (fun c_2 => ?_) (fun c_2 => ?_)
    · replace hs := if_n c_2 hs
      refine lv_aload_n hx hb dX5_man_25 rfl (lv_at hl 0 rfl) ?_
      refine va_get (D := (dC, dI)) (ci := 5) (v := .ref q5ne) (C := RX5) (T := TX5) (N := 16) hx hb hts (fun w h => kg1 (iG_5 w h)) hown hK hP 0 rfl rfl 4 (by decide) (hts _ (kg1 mG_319)) (fun _ h9 => h9) rfl dX5_man_26 ?_
      refine lv_iload_n hx hb dX5_man_29 rfl (lv_at hl 1 rfl) ?_
      obtain ⟨hg_3, hs⟩ := gd_e hs
      refine kald hx hb hK hP 4 0 rfl rfl (j := (Int32.toNatClampNeg v1)) rfl (inb_e hg_3) dX5_man_30 ?_
      refine lv_istore_n (lv' := [(3, .int (ne (Int32.toNatClampNeg v1))), (0, .ref q5), (1, .int v1), (2, .int v2)]) hx hb dX5_man_31 rfl hl (by decide) rfl (fun ls hl => ?_)
      refine lv_aload_n hx hb dX5_man_32 rfl (lv_at hl 1 rfl) ?_
      refine va_get (D := (dC, dI)) (ci := 5) (v := .ref q5ne) (C := RX5) (T := TX5) (N := 16) hx hb hts (fun w h => kg1 (iG_5 w h)) hown hK hP 0 rfl rfl 4 (by decide) (hts _ (kg1 mG_319)) (fun _ h9 => h9) rfl dX5_man_33 ?_
      refine lv_iload_n hx hb dX5_man_36 rfl (lv_at hl 2 rfl) ?_
      refine lv_iload_n hx hb dX5_man_37 rfl (lv_at hl 3 rfl) ?_
      refine kast hx hb hK hP hD hS 4 0 rfl rfl (j := (Int32.toNatClampNeg v1)) rfl (inb_e hg_3) dX5_man_38 (fun H locs hP hD hS => ?_)
      have hP : va_P (dC, dI) vwCl [(q5, .inr (5, [.ref q5bk, .ref q5nw, .ref q5to, .int th, .ref q5ne, .int si, .ref q5st, .int sn, .ref q5pd, .int re, .int ac, .int fa, .int fw, .ref q5cn, .ref q5ig, .ref q5ik])), (q5bk, .inl (cI, 15, .inl bk)), (q5nw, .inl (cI, 15, .inl nw)), (q5to, .inl (cI, 12, .inl to)), (q5ne, .inl (cI, 8, .inl (upd ne (Int32.toNatClampNeg v1) v2))), (q5st, .inl (cI, 16, .inl st)), (q5pd, .inl (cI, 60, .inl pd)), (q5cn, .inl (cI, 3, .inl cn)), (q5ig, .inl (cI, 120, .inl ig)), (q5ik, .inl (cZ, 2, .inl ik))] H := hP
      have hD : va_D A [(q5, .inr (5, [.ref q5bk, .ref q5nw, .ref q5to, .int th, .ref q5ne, .int si, .ref q5st, .int sn, .ref q5pd, .int re, .int ac, .int fa, .int fw, .ref q5cn, .ref q5ig, .ref q5ik])), (q5bk, .inl (cI, 15, .inl bk)), (q5nw, .inl (cI, 15, .inl nw)), (q5to, .inl (cI, 12, .inl to)), (q5ne, .inl (cI, 8, .inl (upd ne (Int32.toNatClampNeg v1) v2))), (q5st, .inl (cI, 16, .inl st)), (q5pd, .inl (cI, 60, .inl pd)), (q5cn, .inl (cI, 3, .inl cn)), (q5ig, .inl (cI, 120, .inl ig)), (q5ik, .inl (cZ, 2, .inl ik))] := hD
      refine lv_iload_n hx hb dX5_man_39 rfl (lv_at hl 0 rfl) ?_
      cases hs
      exact hret _ _ _ _ hP hD hS (vp_nar_int _) dX5_man_40
    · replace hs := if_p c_2 hs
      refine lv_bipush (v := -2) hx hb dX5_man_22 (by decide) ?_
      cases hs
      exact hret _ _ _ _ hP hD hS (vp_nar_int _) dX5_man_24
  · replace hs := if_p c_1 hs
    refine lv_iconst (v := -1) hx hb dX5_man_10 (by decide) ?_
    cases hs
    exact hret _ _ _ _ hP hD hS (vp_nar_int _) dX5_man_11
abbrev rm_X5_say : Room := { frames := 1, cells := 0, slots := 0, locals := 22 }
theorem hd_X5_say : yX5_say.cls ≠ "java/lang/invoke/MethodHandle" ∧ yX5_say.cls ≠ "java/lang/invoke/VarHandle" ∧ (parseMethodDescriptor yX5_say.desc).map (fun d => d.parameters.length) = some 1 := by decide +kernel
set_option maxHeartbeats 4000000 in
set_option maxRecDepth 100000 in
theorem k_X5_say (l : Launch) (dC : Nat → ClassId) (dI : Nat → Nat → Nat) (cI cZ cS : ClassId) (q5 q5bk q5nw q5to q5ne q5st q5pd q5cn q5ig q5ik : Nat) (sz : Nat) (th : Int32) (si : Int32) (sn : Int32) (re : Int32) (ac : Int32) (fa : Int32) (fw : Int32) (bk : Ar) (nw : Ar) (to : Ar) (ne : Ar) (st : Ar) (pd : Ar) (cn : Ar) (ig : Ar) (ik : Ar) (v1 : Int32) (r0 : Int32) (sn_o : Int32) (pd_o : Ar) (hs : m_X5_say v1 sn pd = some (r0, sn_o, pd_o)) : Met l yX5_say (.code yX5_say cX5_say 2 (some .int) :: kG) rm_X5_say (va_Pc [.ref q5, .int v1] (kW (dC, dI) cI cZ cS [(q5, .inr (5, [.ref q5bk, .ref q5nw, .ref q5to, .int th, .ref q5ne, .int si, .ref q5st, .int sn, .ref q5pd, .int re, .int ac, .int fa, .int fw, .ref q5cn, .ref q5ig, .ref q5ik])), (q5bk, .inl (cI, 15, .inl bk)), (q5nw, .inl (cI, 15, .inl nw)), (q5to, .inl (cI, 12, .inl to)), (q5ne, .inl (cI, 8, .inl ne)), (q5st, .inl (cI, 16, .inl st)), (q5pd, .inl (cI, 60, .inl pd)), (q5cn, .inl (cI, 3, .inl cn)), (q5ig, .inl (cI, 120, .inl ig)), (q5ik, .inl (cZ, 2, .inl ik))] sz)) (kQi (dC, dI) [(q5, .inr (5, [.ref q5bk, .ref q5nw, .ref q5to, .int th, .ref q5ne, .int si, .ref q5st, .int sn, .ref q5pd, .int re, .int ac, .int fa, .int fw, .ref q5cn, .ref q5ig, .ref q5ik])), (q5bk, .inl (cI, 15, .inl bk)), (q5nw, .inl (cI, 15, .inl nw)), (q5to, .inl (cI, 12, .inl to)), (q5ne, .inl (cI, 8, .inl ne)), (q5st, .inl (cI, 16, .inl st)), (q5pd, .inl (cI, 60, .inl pd)), (q5cn, .inl (cI, 3, .inl cn)), (q5ig, .inl (cI, 120, .inl ig)), (q5ik, .inl (cZ, 2, .inl ik))] [(q5, .inr (5, [.ref q5bk, .ref q5nw, .ref q5to, .int th, .ref q5ne, .int si, .ref q5st, .int sn_o, .ref q5pd, .int re, .int ac, .int fa, .int fw, .ref q5cn, .ref q5ig, .ref q5ik])), (q5bk, .inl (cI, 15, .inl bk)), (q5nw, .inl (cI, 15, .inl nw)), (q5to, .inl (cI, 12, .inl to)), (q5ne, .inl (cI, 8, .inl ne)), (q5st, .inl (cI, 16, .inl st)), (q5pd, .inl (cI, 60, .inl pd_o)), (q5cn, .inl (cI, 3, .inl cn)), (q5ig, .inl (cI, 120, .inl ig)), (q5ik, .inl (cZ, 2, .inl ik))] sz r0) 0 0 (va_A [(q5, .inr (5, [.ref q5bk, .ref q5nw, .ref q5to, .int th, .ref q5ne, .int si, .ref q5st, .int sn, .ref q5pd, .int re, .int ac, .int fa, .int fw, .ref q5cn, .ref q5ig, .ref q5ik])), (q5bk, .inl (cI, 15, .inl bk)), (q5nw, .inl (cI, 15, .inl nw)), (q5to, .inl (cI, 12, .inl to)), (q5ne, .inl (cI, 8, .inl ne)), (q5st, .inl (cI, 16, .inl st)), (q5pd, .inl (cI, 60, .inl pd)), (q5cn, .inl (cI, 3, .inl cn)), (q5ig, .inl (cI, 120, .inl ig)), (q5ik, .inl (cZ, 2, .inl ik))] sz) := by
  refine kMi (own := RX5) (ty := .int) rfl (by decide) rfl ?_ (Nat.le_of_ble_eq_true rfl)
  intro p e s m args below meth c Q A CF hK hN hA hP hD hret ls hl
  have hS : va_S A s.heap s.heap [] := va_S.rf
  obtain ⟨hx, hb, hml, hown, hts⟩ := id CF
  have hl : lv_has ls 2 [(0, .ref q5), (1, .int v1)] := hl
  unfold m_X5_say at hs
  refine lv_iload_n hx hb dX5_say_0 rfl (lv_at hl 1 rfl) ?_
  refine lv_bipush (v := 33) hx hb dX5_say_1 (by decide) ?_
  refine lv_bipush (v := 126) hx hb dX5_say_3 (by decide) ?_
  refine kpi (va_runS (As := [.int v1, .int (33 : Int32), .int (126 : Int32)]) (rest := []) ⟨hx, hb, hml, hown, hts⟩ (k_X5_in l v1 (33 : Int32) (126 : Int32) _ rfl) (va_cwS 3 hts (kGood (kgS mG_330 mG_331 mG_332 mG_326)) rfl rfl rfl hd_X5_in ⟨Nat.le_of_ble_eq_true rfl, Nat.le_of_ble_eq_true rfl⟩) preEq rfl rfl hl.1 rfl (lv_room (Nat.le_of_ble_eq_true rfl)) dX5_say_5 ⟨Nat.zero_le _, Nat.zero_le _⟩) ?_
  refine lv_if_ne (tgt := 14) hx hb dX5_say_8 (by decide) (fun c_1 => ?_) (fun c_1 => ?_)
  · replace hs := if_n c_1 hs
    refine lv_aload_n hx hb dX5_say_14 rfl (lv_at hl 0 rfl) ?_
    refine va_get (D := (dC, dI)) (ci := 5) (v := .int sn) (C := RX5) (T := TX5) (N := 16) hx hb hts (fun w h => kg1 (iG_5 w h)) hown hK hP 0 rfl rfl 7 (by decide) (hts _ (kg1 mG_343)) (fun _ h9 => h9) rfl dX5_say_15 ?_
    refine lv_bipush (v := 60) hx hb dX5_say_18 (by decide) ?_
    refine lv_icmp_ne (tgt := 26) hx hb dX5_say_20 (by decide) (fun c_2 => ?_) (fun c_2 => ?_)
    · replace hs := if_n c_2 hs
      refine lv_aload_n hx hb dX5_say_26 rfl (lv_at hl 0 rfl) ?_
      refine va_get (D := (dC, dI)) (ci := 5) (v := .ref q5pd) (C := RX5) (T := TX5) (N := 16) hx hb hts (fun w h => kg1 (iG_5 w h)) hown hK hP 0 rfl rfl 8 (by decide) (hts _ (kg1 mG_321)) (fun _ h9 => h9) rfl dX5_say_27 ?_
      refine lv_aload_n hx hb dX5_say_30 rfl (lv_at hl 0 rfl) ?_
      refine va_get (D := (dC, dI)) (ci := 5) (v := .int sn) (C := RX5) (T := TX5) (N := 16) hx hb hts (fun w h => kg1 (iG_5 w h)) hown hK hP 0 rfl rfl 7 (by decide) (hts _ (kg1 mG_343)) (fun _ h9 => h9) rfl dX5_say_31 ?_
      refine lv_iload_n hx hb dX5_say_34 rfl (lv_at hl 1 rfl) ?_
      obtain ⟨hg_3, hs⟩ := gd_e hs
      refine kast hx hb hK hP hD hS 6 0 rfl rfl (j := (Int32.toNatClampNeg sn)) rfl (inb_e hg_3) dX5_say_35 (fun H locs hP hD hS => ?_)
      have hP : va_P (dC, dI) vwCl [(q5, .inr (5, [.ref q5bk, .ref q5nw, .ref q5to, .int th, .ref q5ne, .int si, .ref q5st, .int sn, .ref q5pd, .int re, .int ac, .int fa, .int fw, .ref q5cn, .ref q5ig, .ref q5ik])), (q5bk, .inl (cI, 15, .inl bk)), (q5nw, .inl (cI, 15, .inl nw)), (q5to, .inl (cI, 12, .inl to)), (q5ne, .inl (cI, 8, .inl ne)), (q5st, .inl (cI, 16, .inl st)), (q5pd, .inl (cI, 60, .inl (upd pd (Int32.toNatClampNeg sn) v1))), (q5cn, .inl (cI, 3, .inl cn)), (q5ig, .inl (cI, 120, .inl ig)), (q5ik, .inl (cZ, 2, .inl ik))] H := hP
      have hD : va_D A [(q5, .inr (5, [.ref q5bk, .ref q5nw, .ref q5to, .int th, .ref q5ne, .int si, .ref q5st, .int sn, .ref q5pd, .int re, .int ac, .int fa, .int fw, .ref q5cn, .ref q5ig, .ref q5ik])), (q5bk, .inl (cI, 15, .inl bk)), (q5nw, .inl (cI, 15, .inl nw)), (q5to, .inl (cI, 12, .inl to)), (q5ne, .inl (cI, 8, .inl ne)), (q5st, .inl (cI, 16, .inl st)), (q5pd, .inl (cI, 60, .inl (upd pd (Int32.toNatClampNeg sn) v1))), (q5cn, .inl (cI, 3, .inl cn)), (q5ig, .inl (cI, 120, .inl ig)), (q5ik, .inl (cZ, 2, .inl ik))] := hD
      refine lv_aload_n hx hb dX5_say_36 rfl (lv_at hl 0 rfl) ?_
      refine lv_dup hx hb dX5_say_37 rfl ?_
      refine va_get (D := (dC, dI)) (ci := 5) (v := .int sn) (C := RX5) (T := TX5) (N := 16) hx hb hts (fun w h => kg1 (iG_5 w h)) hown hK hP 0 rfl rfl 7 (by decide) (hts _ (kg1 mG_343)) (fun _ h9 => h9) rfl dX5_say_38 ?_
      refine lv_iconst (v := 1) hx hb dX5_say_41 (by decide) ?_
      refine lv_iadd hx hb dX5_say_42 ?_
      refine va_put (D := (dC, dI)) (ci := 5) (v := .int (sn + (1 : Int32))) (ty := .int) (C := RX5) (T := TX5) (N := 16) hx hb hts (fun w h => kg1 (iG_5 w h)) tyX5 tyX5_ok nmX5 hown hK hP hD hS 0 rfl rfl 7 (by decide) (hts _ (kg1 mG_343)) (fun _ h9 => h9) rfl rfl rfl rfl (Nat.le_of_ble_eq_true rfl) dX5_say_43 (fun H locs hP hD hS => ?_)
      have hP : va_P (dC, dI) vwCl [(q5, .inr (5, [.ref q5bk, .ref q5nw, .ref q5to, .int th, .ref q5ne, .int si, .ref q5st, .int (sn + (1 : Int32)), .ref q5pd, .int re, .int ac, .int fa, .int fw, .ref q5cn, .ref q5ig, .ref q5ik])), (q5bk, .inl (cI, 15, .inl bk)), (q5nw, .inl (cI, 15, .inl nw)), (q5to, .inl (cI, 12, .inl to)), (q5ne, .inl (cI, 8, .inl ne)), (q5st, .inl (cI, 16, .inl st)), (q5pd, .inl (cI, 60, .inl (upd pd (Int32.toNatClampNeg sn) v1))), (q5cn, .inl (cI, 3, .inl cn)), (q5ig, .inl (cI, 120, .inl ig)), (q5ik, .inl (cZ, 2, .inl ik))] H := hP
      have hD : va_D A [(q5, .inr (5, [.ref q5bk, .ref q5nw, .ref q5to, .int th, .ref q5ne, .int si, .ref q5st, .int (sn + (1 : Int32)), .ref q5pd, .int re, .int ac, .int fa, .int fw, .ref q5cn, .ref q5ig, .ref q5ik])), (q5bk, .inl (cI, 15, .inl bk)), (q5nw, .inl (cI, 15, .inl nw)), (q5to, .inl (cI, 12, .inl to)), (q5ne, .inl (cI, 8, .inl ne)), (q5st, .inl (cI, 16, .inl st)), (q5pd, .inl (cI, 60, .inl (upd pd (Int32.toNatClampNeg sn) v1))), (q5cn, .inl (cI, 3, .inl cn)), (q5ig, .inl (cI, 120, .inl ig)), (q5ik, .inl (cZ, 2, .inl ik))] := hD
      refine lv_aload_n hx hb dX5_say_46 rfl (lv_at hl 0 rfl) ?_
      refine va_get (D := (dC, dI)) (ci := 5) (v := .int (sn + (1 : Int32))) (C := RX5) (T := TX5) (N := 16) hx hb hts (fun w h => kg1 (iG_5 w h)) hown hK hP 0 rfl rfl 7 (by decide) (hts _ (kg1 mG_343)) (fun _ h9 => h9) rfl dX5_say_47 ?_
      cases hs
      exact hret _ _ _ _ hP hD hS (vp_nar_int _) dX5_say_50
    · replace hs := if_p c_2 hs
      refine lv_bipush (v := -4) hx hb dX5_say_23 (by decide) ?_
      cases hs
      exact hret _ _ _ _ hP hD hS (vp_nar_int _) dX5_say_25
  · replace hs := if_p c_1 hs
    refine lv_bipush (v := -2) hx hb dX5_say_11 (by decide) ?_
    cases hs
    exact hret _ _ _ _ hP hD hS (vp_nar_int _) dX5_say_13
abbrev rm_X5_wipe : Room := { frames := 0, cells := 0, slots := 0, locals := 0 }
theorem hd_X5_wipe : yX5_wipe.cls ≠ "java/lang/invoke/MethodHandle" ∧ yX5_wipe.cls ≠ "java/lang/invoke/VarHandle" ∧ (parseMethodDescriptor yX5_wipe.desc).map (fun d => d.parameters.length) = some 0 := by decide +kernel
set_option maxHeartbeats 4000000 in
set_option maxRecDepth 100000 in
theorem k_X5_wipe (l : Launch) (dC : Nat → ClassId) (dI : Nat → Nat → Nat) (cI cZ cS : ClassId) (q5 q5bk q5nw q5to q5ne q5st q5pd q5cn q5ig q5ik : Nat) (sz : Nat) (th : Int32) (si : Int32) (sn : Int32) (re : Int32) (ac : Int32) (fa : Int32) (fw : Int32) (bk : Ar) (nw : Ar) (to : Ar) (ne : Ar) (st : Ar) (pd : Ar) (cn : Ar) (ig : Ar) (ik : Ar)  (r0 : Int32) (sn_o : Int32) (hs : m_X5_wipe sn = some (r0, sn_o)) : Met l yX5_wipe (.code yX5_wipe cX5_wipe 2 (some .int) :: kG) rm_X5_wipe (va_Pc [.ref q5] (kW (dC, dI) cI cZ cS [(q5, .inr (5, [.ref q5bk, .ref q5nw, .ref q5to, .int th, .ref q5ne, .int si, .ref q5st, .int sn, .ref q5pd, .int re, .int ac, .int fa, .int fw, .ref q5cn, .ref q5ig, .ref q5ik])), (q5bk, .inl (cI, 15, .inl bk)), (q5nw, .inl (cI, 15, .inl nw)), (q5to, .inl (cI, 12, .inl to)), (q5ne, .inl (cI, 8, .inl ne)), (q5st, .inl (cI, 16, .inl st)), (q5pd, .inl (cI, 60, .inl pd)), (q5cn, .inl (cI, 3, .inl cn)), (q5ig, .inl (cI, 120, .inl ig)), (q5ik, .inl (cZ, 2, .inl ik))] sz)) (kQi (dC, dI) [(q5, .inr (5, [.ref q5bk, .ref q5nw, .ref q5to, .int th, .ref q5ne, .int si, .ref q5st, .int sn, .ref q5pd, .int re, .int ac, .int fa, .int fw, .ref q5cn, .ref q5ig, .ref q5ik])), (q5bk, .inl (cI, 15, .inl bk)), (q5nw, .inl (cI, 15, .inl nw)), (q5to, .inl (cI, 12, .inl to)), (q5ne, .inl (cI, 8, .inl ne)), (q5st, .inl (cI, 16, .inl st)), (q5pd, .inl (cI, 60, .inl pd)), (q5cn, .inl (cI, 3, .inl cn)), (q5ig, .inl (cI, 120, .inl ig)), (q5ik, .inl (cZ, 2, .inl ik))] [(q5, .inr (5, [.ref q5bk, .ref q5nw, .ref q5to, .int th, .ref q5ne, .int si, .ref q5st, .int sn_o, .ref q5pd, .int re, .int ac, .int fa, .int fw, .ref q5cn, .ref q5ig, .ref q5ik])), (q5bk, .inl (cI, 15, .inl bk)), (q5nw, .inl (cI, 15, .inl nw)), (q5to, .inl (cI, 12, .inl to)), (q5ne, .inl (cI, 8, .inl ne)), (q5st, .inl (cI, 16, .inl st)), (q5pd, .inl (cI, 60, .inl pd)), (q5cn, .inl (cI, 3, .inl cn)), (q5ig, .inl (cI, 120, .inl ig)), (q5ik, .inl (cZ, 2, .inl ik))] sz r0) 0 0 (va_A [(q5, .inr (5, [.ref q5bk, .ref q5nw, .ref q5to, .int th, .ref q5ne, .int si, .ref q5st, .int sn, .ref q5pd, .int re, .int ac, .int fa, .int fw, .ref q5cn, .ref q5ig, .ref q5ik])), (q5bk, .inl (cI, 15, .inl bk)), (q5nw, .inl (cI, 15, .inl nw)), (q5to, .inl (cI, 12, .inl to)), (q5ne, .inl (cI, 8, .inl ne)), (q5st, .inl (cI, 16, .inl st)), (q5pd, .inl (cI, 60, .inl pd)), (q5cn, .inl (cI, 3, .inl cn)), (q5ig, .inl (cI, 120, .inl ig)), (q5ik, .inl (cZ, 2, .inl ik))] sz) := by
  refine kMi (own := RX5) (ty := .int) rfl (by decide) rfl ?_ (Nat.le_of_ble_eq_true rfl)
  intro p e s m args below meth c Q A CF hK hN hA hP hD hret ls hl
  have hS : va_S A s.heap s.heap [] := va_S.rf
  obtain ⟨hx, hb, hml, hown, hts⟩ := id CF
  have hl : lv_has ls 2 [(0, .ref q5)] := hl
  unfold m_X5_wipe at hs
  refine lv_aload_n hx hb dX5_wipe_0 rfl (lv_at hl 0 rfl) ?_
  refine va_get (D := (dC, dI)) (ci := 5) (v := .int sn) (C := RX5) (T := TX5) (N := 16) hx hb hts (fun w h => kg1 (iG_5 w h)) hown hK hP 0 rfl rfl 7 (by decide) (hts _ (kg1 mG_343)) (fun _ h9 => h9) rfl dX5_wipe_1 ?_
  refine lv_istore_n (lv' := [(1, .int sn), (0, .ref q5)]) hx hb dX5_wipe_4 rfl hl (by decide) rfl (fun ls hl => ?_)
  refine lv_aload_n hx hb dX5_wipe_5 rfl (lv_at hl 1 rfl) ?_
  refine lv_iconst (v := 0) hx hb dX5_wipe_6 (by decide) ?_
  refine va_put (D := (dC, dI)) (ci := 5) (v := .int (0 : Int32)) (ty := .int) (C := RX5) (T := TX5) (N := 16) hx hb hts (fun w h => kg1 (iG_5 w h)) tyX5 tyX5_ok nmX5 hown hK hP hD hS 0 rfl rfl 7 (by decide) (hts _ (kg1 mG_343)) (fun _ h9 => h9) rfl rfl rfl rfl (Nat.le_of_ble_eq_true rfl) dX5_wipe_7 (fun H locs hP hD hS => ?_)
  have hP : va_P (dC, dI) vwCl [(q5, .inr (5, [.ref q5bk, .ref q5nw, .ref q5to, .int th, .ref q5ne, .int si, .ref q5st, .int (0 : Int32), .ref q5pd, .int re, .int ac, .int fa, .int fw, .ref q5cn, .ref q5ig, .ref q5ik])), (q5bk, .inl (cI, 15, .inl bk)), (q5nw, .inl (cI, 15, .inl nw)), (q5to, .inl (cI, 12, .inl to)), (q5ne, .inl (cI, 8, .inl ne)), (q5st, .inl (cI, 16, .inl st)), (q5pd, .inl (cI, 60, .inl pd)), (q5cn, .inl (cI, 3, .inl cn)), (q5ig, .inl (cI, 120, .inl ig)), (q5ik, .inl (cZ, 2, .inl ik))] H := hP
  have hD : va_D A [(q5, .inr (5, [.ref q5bk, .ref q5nw, .ref q5to, .int th, .ref q5ne, .int si, .ref q5st, .int (0 : Int32), .ref q5pd, .int re, .int ac, .int fa, .int fw, .ref q5cn, .ref q5ig, .ref q5ik])), (q5bk, .inl (cI, 15, .inl bk)), (q5nw, .inl (cI, 15, .inl nw)), (q5to, .inl (cI, 12, .inl to)), (q5ne, .inl (cI, 8, .inl ne)), (q5st, .inl (cI, 16, .inl st)), (q5pd, .inl (cI, 60, .inl pd)), (q5cn, .inl (cI, 3, .inl cn)), (q5ig, .inl (cI, 120, .inl ig)), (q5ik, .inl (cZ, 2, .inl ik))] := hD
  refine lv_iload_n hx hb dX5_wipe_10 rfl (lv_at hl 0 rfl) ?_
  cases hs
  exact hret _ _ _ _ hP hD hS (vp_nar_int _) dX5_wipe_11
abbrev rm_X5_faultOf : Room := { frames := 1, cells := 0, slots := 0, locals := 22 }
theorem hd_X5_faultOf : yX5_faultOf.cls ≠ "java/lang/invoke/MethodHandle" ∧ yX5_faultOf.cls ≠ "java/lang/invoke/VarHandle" ∧ (parseMethodDescriptor yX5_faultOf.desc).map (fun d => d.parameters.length) = some 0 := by decide +kernel
set_option maxHeartbeats 4000000 in
set_option maxRecDepth 100000 in
theorem k_X5_faultOf (l : Launch) (dC : Nat → ClassId) (dI : Nat → Nat → Nat) (cI cZ cS : ClassId) (q5 q5bk q5nw q5to q5ne q5st q5pd q5cn q5ig q5ik : Nat) (sz : Nat) (th : Int32) (si : Int32) (sn : Int32) (re : Int32) (ac : Int32) (fa : Int32) (fw : Int32) (bk : Ar) (nw : Ar) (to : Ar) (ne : Ar) (st : Ar) (pd : Ar) (cn : Ar) (ig : Ar) (ik : Ar)  (r0 : Int32) (hs : m_X5_faultOf sn pd = some r0) : Met l yX5_faultOf (.code yX5_faultOf cX5_faultOf 5 (some .int) :: kG) rm_X5_faultOf (va_Pc [.ref q5] (kW (dC, dI) cI cZ cS [(q5, .inr (5, [.ref q5bk, .ref q5nw, .ref q5to, .int th, .ref q5ne, .int si, .ref q5st, .int sn, .ref q5pd, .int re, .int ac, .int fa, .int fw, .ref q5cn, .ref q5ig, .ref q5ik])), (q5bk, .inl (cI, 15, .inl bk)), (q5nw, .inl (cI, 15, .inl nw)), (q5to, .inl (cI, 12, .inl to)), (q5ne, .inl (cI, 8, .inl ne)), (q5st, .inl (cI, 16, .inl st)), (q5pd, .inl (cI, 60, .inl pd)), (q5cn, .inl (cI, 3, .inl cn)), (q5ig, .inl (cI, 120, .inl ig)), (q5ik, .inl (cZ, 2, .inl ik))] sz)) (kQi (dC, dI) [(q5, .inr (5, [.ref q5bk, .ref q5nw, .ref q5to, .int th, .ref q5ne, .int si, .ref q5st, .int sn, .ref q5pd, .int re, .int ac, .int fa, .int fw, .ref q5cn, .ref q5ig, .ref q5ik])), (q5bk, .inl (cI, 15, .inl bk)), (q5nw, .inl (cI, 15, .inl nw)), (q5to, .inl (cI, 12, .inl to)), (q5ne, .inl (cI, 8, .inl ne)), (q5st, .inl (cI, 16, .inl st)), (q5pd, .inl (cI, 60, .inl pd)), (q5cn, .inl (cI, 3, .inl cn)), (q5ig, .inl (cI, 120, .inl ig)), (q5ik, .inl (cZ, 2, .inl ik))] [(q5, .inr (5, [.ref q5bk, .ref q5nw, .ref q5to, .int th, .ref q5ne, .int si, .ref q5st, .int sn, .ref q5pd, .int re, .int ac, .int fa, .int fw, .ref q5cn, .ref q5ig, .ref q5ik])), (q5bk, .inl (cI, 15, .inl bk)), (q5nw, .inl (cI, 15, .inl nw)), (q5to, .inl (cI, 12, .inl to)), (q5ne, .inl (cI, 8, .inl ne)), (q5st, .inl (cI, 16, .inl st)), (q5pd, .inl (cI, 60, .inl pd)), (q5cn, .inl (cI, 3, .inl cn)), (q5ig, .inl (cI, 120, .inl ig)), (q5ik, .inl (cZ, 2, .inl ik))] sz r0) 0 0 (va_A [(q5, .inr (5, [.ref q5bk, .ref q5nw, .ref q5to, .int th, .ref q5ne, .int si, .ref q5st, .int sn, .ref q5pd, .int re, .int ac, .int fa, .int fw, .ref q5cn, .ref q5ig, .ref q5ik])), (q5bk, .inl (cI, 15, .inl bk)), (q5nw, .inl (cI, 15, .inl nw)), (q5to, .inl (cI, 12, .inl to)), (q5ne, .inl (cI, 8, .inl ne)), (q5st, .inl (cI, 16, .inl st)), (q5pd, .inl (cI, 60, .inl pd)), (q5cn, .inl (cI, 3, .inl cn)), (q5ig, .inl (cI, 120, .inl ig)), (q5ik, .inl (cZ, 2, .inl ik))] sz) := by
  refine kMi (own := RX5) (ty := .int) rfl (by decide) rfl ?_ (Nat.le_of_ble_eq_true rfl)
  intro p e s m args below meth c Q A CF hK hN hA hP hD hret ls hl
  have hS : va_S A s.heap s.heap [] := va_S.rf
  obtain ⟨hx, hb, hml, hown, hts⟩ := id CF
  have hl : lv_has ls 5 [(0, .ref q5)] := hl
  unfold m_X5_faultOf at hs
  refine lv_iconst (v := 0) hx hb dX5_faultOf_0 (by decide) ?_
  refine lv_istore_n (lv' := [(1, .int (0 : Int32)), (0, .ref q5)]) hx hb dX5_faultOf_1 rfl hl (by decide) rfl (fun ls hl => ?_)
  refine lv_iconst (v := 0) hx hb dX5_faultOf_2 (by decide) ?_
  refine lv_istore_n (lv' := [(2, .int (0 : Int32)), (1, .int (0 : Int32)), (0, .ref q5)]) hx hb dX5_faultOf_3 rfl hl (by decide) rfl (fun ls hl => ?_)
  have hL_4 : ∀ (n : Nat) (v1 : Int32) (v2 : Int32) (H : Heap) (locs : List Loc) (ls : Array Slot), va_P (dC, dI) vwCl [(q5, .inr (5, [.ref q5bk, .ref q5nw, .ref q5to, .int th, .ref q5ne, .int si, .ref q5st, .int sn, .ref q5pd, .int re, .int ac, .int fa, .int fw, .ref q5cn, .ref q5ig, .ref q5ik])), (q5bk, .inl (cI, 15, .inl bk)), (q5nw, .inl (cI, 15, .inl nw)), (q5to, .inl (cI, 12, .inl to)), (q5ne, .inl (cI, 8, .inl ne)), (q5st, .inl (cI, 16, .inl st)), (q5pd, .inl (cI, 60, .inl pd)), (q5cn, .inl (cI, 3, .inl cn)), (q5ig, .inl (cI, 120, .inl ig)), (q5ik, .inl (cZ, 2, .inl ik))] H → va_D A [(q5, .inr (5, [.ref q5bk, .ref q5nw, .ref q5to, .int th, .ref q5ne, .int si, .ref q5st, .int sn, .ref q5pd, .int re, .int ac, .int fa, .int fw, .ref q5cn, .ref q5ig, .ref q5ik])), (q5bk, .inl (cI, 15, .inl bk)), (q5nw, .inl (cI, 15, .inl nw)), (q5to, .inl (cI, 12, .inl to)), (q5ne, .inl (cI, 8, .inl ne)), (q5st, .inl (cI, 16, .inl st)), (q5pd, .inl (cI, 60, .inl pd)), (q5cn, .inl (cI, 3, .inl cn)), (q5ig, .inl (cI, 120, .inl ig)), (q5ik, .inl (cZ, 2, .inl ik))] → va_S A s.heap H locs → lv_has ls 5 [(0, .ref q5), (1, .int v1), (2, .int v2)] → L_X5_faultOf_4 sn pd n v1 v2 = some r0 → W p l e rm_X5_faultOf s m args below meth c H locs 0 0 Q (F0 m 4 ls []) := by
    intro n
    induction n with
    | zero =>
      intro v1 v2 H locs ls hP hD hS hl hs
      replace hs : (none : Option (Int32)) = some r0 := hs
      cases hs
    | succ n_4 ih_4 =>
      intro v1 v2 H locs ls hP hD hS hl hs
      replace hs : b_X5_faultOf_4  (L_X5_faultOf_4 sn pd n_4) sn pd v1 v2 = some r0 := hs
      unfold b_X5_faultOf_4 at hs
      refine lv_iload_n hx hb dX5_faultOf_4 rfl (lv_at hl 2 rfl) ?_
      refine lv_aload_n hx hb dX5_faultOf_5 rfl (lv_at hl 0 rfl) ?_
      refine va_get (D := (dC, dI)) (ci := 5) (v := .int sn) (C := RX5) (T := TX5) (N := 16) hx hb hts (fun w h => kg1 (iG_5 w h)) hown hK hP 0 rfl rfl 7 (by decide) (hts _ (kg1 mG_343)) (fun _ h9 => h9) rfl dX5_faultOf_6 ?_
      refine lv_icmp_ge (tgt := 94) hx hb dX5_faultOf_9 (by decide) (fun c_1 => ?_) (fun c_1 => ?_)
      · replace hs := if_p c_1 hs
        refine lv_iload_n hx hb dX5_faultOf_94 rfl (lv_at hl 1 rfl) ?_
        refine lv_if_eq (tgt := 105) hx hb dX5_faultOf_95 (by decide) (fun c_2 => ?_) (fun c_2 => ?_)
        · replace hs := if_p c_2 hs
          refine lv_bipush (v := -6) hx hb dX5_faultOf_105 (by decide) ?_
          cases hs
          exact hret _ _ _ _ hP hD hS (vp_nar_int _) dX5_faultOf_107
        · replace hs := if_n c_2 hs
          refine lv_aload_n hx hb dX5_faultOf_98 rfl (lv_at hl 0 rfl) ?_
          refine va_get (D := (dC, dI)) (ci := 5) (v := .int sn) (C := RX5) (T := TX5) (N := 16) hx hb hts (fun w h => kg1 (iG_5 w h)) hown hK hP 0 rfl rfl 7 (by decide) (hts _ (kg1 mG_343)) (fun _ h9 => h9) rfl dX5_faultOf_99 ?_
          refine lv_goto (tgt := 107) hx hb dX5_faultOf_102 (by decide) ?_
          cases hs
          exact hret _ _ _ _ hP hD hS (vp_nar_int _) dX5_faultOf_107
      · replace hs := if_n c_1 hs
        refine lv_aload_n hx hb dX5_faultOf_12 rfl (lv_at hl 0 rfl) ?_
        refine va_get (D := (dC, dI)) (ci := 5) (v := .ref q5pd) (C := RX5) (T := TX5) (N := 16) hx hb hts (fun w h => kg1 (iG_5 w h)) hown hK hP 0 rfl rfl 8 (by decide) (hts _ (kg1 mG_321)) (fun _ h9 => h9) rfl dX5_faultOf_13 ?_
        refine lv_iload_n hx hb dX5_faultOf_16 rfl (lv_at hl 2 rfl) ?_
        obtain ⟨hg_3, hs⟩ := gd_e hs
        refine kald hx hb hK hP 6 0 rfl rfl (j := (Int32.toNatClampNeg v2)) rfl (inb_e hg_3) dX5_faultOf_17 ?_
        refine lv_istore_n (lv' := [(3, .int (pd (Int32.toNatClampNeg v2))), (0, .ref q5), (1, .int v1), (2, .int v2)]) hx hb dX5_faultOf_18 rfl hl (by decide) rfl (fun ls hl => ?_)
        refine lv_iload_n hx hb dX5_faultOf_19 rfl (lv_at hl 2 rfl) ?_
        have hJ_63 : ∀ (v1 : Int32) (v2 : Int32) (v3 : Int32) (s63_0 : Int32) (H : Heap) (locs : List Loc) (ls : Array Slot), va_P (dC, dI) vwCl [(q5, .inr (5, [.ref q5bk, .ref q5nw, .ref q5to, .int th, .ref q5ne, .int si, .ref q5st, .int sn, .ref q5pd, .int re, .int ac, .int fa, .int fw, .ref q5cn, .ref q5ig, .ref q5ik])), (q5bk, .inl (cI, 15, .inl bk)), (q5nw, .inl (cI, 15, .inl nw)), (q5to, .inl (cI, 12, .inl to)), (q5ne, .inl (cI, 8, .inl ne)), (q5st, .inl (cI, 16, .inl st)), (q5pd, .inl (cI, 60, .inl pd)), (q5cn, .inl (cI, 3, .inl cn)), (q5ig, .inl (cI, 120, .inl ig)), (q5ik, .inl (cZ, 2, .inl ik))] H → va_D A [(q5, .inr (5, [.ref q5bk, .ref q5nw, .ref q5to, .int th, .ref q5ne, .int si, .ref q5st, .int sn, .ref q5pd, .int re, .int ac, .int fa, .int fw, .ref q5cn, .ref q5ig, .ref q5ik])), (q5bk, .inl (cI, 15, .inl bk)), (q5nw, .inl (cI, 15, .inl nw)), (q5to, .inl (cI, 12, .inl to)), (q5ne, .inl (cI, 8, .inl ne)), (q5st, .inl (cI, 16, .inl st)), (q5pd, .inl (cI, 60, .inl pd)), (q5cn, .inl (cI, 3, .inl cn)), (q5ig, .inl (cI, 120, .inl ig)), (q5ik, .inl (cZ, 2, .inl ik))] → va_S A s.heap H locs → lv_has ls 5 [(0, .ref q5), (1, .int v1), (2, .int v2), (3, .int v3)] → j_X5_faultOf_63 (L_X5_faultOf_4 sn pd n_4) v1 v2 v3 s63_0 = some r0 → W p l e rm_X5_faultOf s m args below meth c H locs 0 0 Q (F0 m 63 ls [.int s63_0]) := by
          intro v1 v2 v3 s63_0 H locs ls hP hD hS hl hs
          unfold j_X5_faultOf_63 at hs
          refine lv_istore (lv' := [(4, .int s63_0), (0, .ref q5), (1, .int v1), (2, .int v2), (3, .int v3)]) hx hb dX5_faultOf_63 hl (by decide) rfl (fun ls hl => ?_)
          refine lv_iload hx hb dX5_faultOf_65 (lv_at hl 0 rfl) ?_
          refine lv_if_ne (tgt := 72) hx hb dX5_faultOf_67 (by decide) (fun c_9 => ?_) (fun c_9 => ?_)
          · replace hs := if_n c_9 hs
            refine lv_iload_n hx hb dX5_faultOf_72 rfl (lv_at hl 2 rfl) ?_
            refine lv_if_ne (tgt := 86) hx hb dX5_faultOf_73 (by decide) (fun c_10 => ?_) (fun c_10 => ?_)
            · replace hs := if_n c_10 hs
              refine lv_iconst (v := 0) hx hb dX5_faultOf_86 (by decide) ?_
              refine lv_istore_n (lv' := [(1, .int (0 : Int32)), (4, .int s63_0), (0, .ref q5), (2, .int v2), (3, .int v3)]) hx hb dX5_faultOf_87 rfl hl (by decide) rfl (fun ls hl => ?_)
              refine lv_iinc (v := (v2 + 1)) (lv' := [(2, .int (v2 + 1)), (1, .int (0 : Int32)), (4, .int s63_0), (0, .ref q5), (3, .int v3)]) hx hb dX5_faultOf_88 hl (k := 3) rfl rfl (by decide) rfl (fun ls hl => ?_)
              refine lv_goto (tgt := 4) hx hb dX5_faultOf_91 (by decide) ?_
              exact ih_4 (0 : Int32) (v2 + 1) _ _ _ hP hD hS (lv_sub hl [3, 1, 0] rfl) hs
            · replace hs := if_p c_10 hs
              refine lv_iload_n hx hb dX5_faultOf_76 rfl (lv_at hl 4 rfl) ?_
              refine lv_bipush (v := 104) hx hb dX5_faultOf_77 (by decide) ?_
              refine lv_icmp_ne (tgt := 86) hx hb dX5_faultOf_79 (by decide) (fun c_11 => ?_) (fun c_11 => ?_)
              · replace hs := if_n c_11 hs
                refine lv_iconst (v := 0) hx hb dX5_faultOf_86 (by decide) ?_
                refine lv_istore_n (lv' := [(1, .int (0 : Int32)), (4, .int s63_0), (0, .ref q5), (2, .int v2), (3, .int v3)]) hx hb dX5_faultOf_87 rfl hl (by decide) rfl (fun ls hl => ?_)
                refine lv_iinc (v := (v2 + 1)) (lv' := [(2, .int (v2 + 1)), (1, .int (0 : Int32)), (4, .int s63_0), (0, .ref q5), (3, .int v3)]) hx hb dX5_faultOf_88 hl (k := 3) rfl rfl (by decide) rfl (fun ls hl => ?_)
                refine lv_goto (tgt := 4) hx hb dX5_faultOf_91 (by decide) ?_
                exact ih_4 (0 : Int32) (v2 + 1) _ _ _ hP hD hS (lv_sub hl [3, 1, 0] rfl) hs
              · replace hs := if_p c_11 hs
                refine lv_iconst (v := 1) hx hb dX5_faultOf_82 (by decide) ?_
                refine lv_goto (tgt := 87) hx hb dX5_faultOf_83 (by decide) ?_
                refine lv_istore_n (lv' := [(1, .int (1 : Int32)), (4, .int s63_0), (0, .ref q5), (2, .int v2), (3, .int v3)]) hx hb dX5_faultOf_87 rfl hl (by decide) rfl (fun ls hl => ?_)
                refine lv_iinc (v := (v2 + 1)) (lv' := [(2, .int (v2 + 1)), (1, .int (1 : Int32)), (4, .int s63_0), (0, .ref q5), (3, .int v3)]) hx hb dX5_faultOf_88 hl (k := 3) rfl rfl (by decide) rfl (fun ls hl => ?_)
                refine lv_goto (tgt := 4) hx hb dX5_faultOf_91 (by decide) ?_
                exact ih_4 (1 : Int32) (v2 + 1) _ _ _ hP hD hS (lv_sub hl [3, 1, 0] rfl) hs
          · replace hs := if_p c_9 hs
            refine lv_iload_n hx hb dX5_faultOf_70 rfl (lv_at hl 3 rfl) ?_
            cases hs
            exact hret _ _ _ _ hP hD hS (vp_nar_int _) dX5_faultOf_71
        refine lv_if_eq (tgt := 34) hx hb dX5_faultOf_20 (by decide) (fun c_4 => ?_) (fun c_4 => ?_)
        · replace hs := if_p c_4 hs
          refine lv_iload_n hx hb dX5_faultOf_34 rfl (lv_at hl 0 rfl) ?_
          refine lv_bipush (v := 46) hx hb dX5_faultOf_35 (by decide) ?_
          refine lv_icmp_eq (tgt := 58) hx hb dX5_faultOf_37 (by decide) (fun c_5 => ?_) (fun c_5 => ?_)
          · replace hs := if_p c_5 hs
            refine lv_iconst (v := 1) hx hb dX5_faultOf_58 (by decide) ?_
            refine lv_goto (tgt := 63) hx hb dX5_faultOf_59 (by decide) ?_
            exact hJ_63 v1 v2 (pd (Int32.toNatClampNeg v2)) (1 : Int32) _ _ _ hP hD hS (lv_sub hl [1, 2, 3, 0] rfl) hs
          · replace hs := if_n c_5 hs
            refine lv_iload_n hx hb dX5_faultOf_40 rfl (lv_at hl 0 rfl) ?_
            refine lv_bipush (v := 104) hx hb dX5_faultOf_41 (by decide) ?_
            refine lv_icmp_eq (tgt := 58) hx hb dX5_faultOf_43 (by decide) (fun c_6 => ?_) (fun c_6 => ?_)
            · replace hs := if_p c_6 hs
              refine lv_iconst (v := 1) hx hb dX5_faultOf_58 (by decide) ?_
              refine lv_goto (tgt := 63) hx hb dX5_faultOf_59 (by decide) ?_
              exact hJ_63 v1 v2 (pd (Int32.toNatClampNeg v2)) (1 : Int32) _ _ _ hP hD hS (lv_sub hl [1, 2, 3, 0] rfl) hs
            · replace hs := if_n c_6 hs
              refine lv_iload_n hx hb dX5_faultOf_46 rfl (lv_at hl 0 rfl) ?_
              refine lv_bipush (v := 33) hx hb dX5_faultOf_47 (by decide) ?_
              refine lv_icmp_eq (tgt := 58) hx hb dX5_faultOf_49 (by decide) (fun c_7 => ?_) (fun c_7 => ?_)
              · replace hs := if_p c_7 hs
                refine lv_iconst (v := 1) hx hb dX5_faultOf_58 (by decide) ?_
                refine lv_goto (tgt := 63) hx hb dX5_faultOf_59 (by decide) ?_
                exact hJ_63 v1 v2 (pd (Int32.toNatClampNeg v2)) (1 : Int32) _ _ _ hP hD hS (lv_sub hl [1, 2, 3, 0] rfl) hs
              · replace hs := if_n c_7 hs
                refine lv_iload_n hx hb dX5_faultOf_52 rfl (lv_at hl 0 rfl) ?_
                refine lv_bipush (v := 110) hx hb dX5_faultOf_53 (by decide) ?_
                refine lv_icmp_ne (tgt := 62) hx hb dX5_faultOf_55 (by decide) (fun c_8 => ?_) (fun c_8 => ?_)
                · replace hs := if_n c_8 hs
                  refine lv_iconst (v := 0) hx hb dX5_faultOf_62 (by decide) ?_
                  exact hJ_63 v1 v2 (pd (Int32.toNatClampNeg v2)) (0 : Int32) _ _ _ hP hD hS (lv_sub hl [1, 2, 3, 0] rfl) hs
                · replace hs := if_p c_8 hs
                  refine lv_iconst (v := 1) hx hb dX5_faultOf_58 (by decide) ?_
                  refine lv_goto (tgt := 63) hx hb dX5_faultOf_59 (by decide) ?_
                  exact hJ_63 v1 v2 (pd (Int32.toNatClampNeg v2)) (1 : Int32) _ _ _ hP hD hS (lv_sub hl [1, 2, 3, 0] rfl) hs
        · replace hs := if_n c_4 hs
          refine lv_iload_n hx hb dX5_faultOf_23 rfl (lv_at hl 0 rfl) ?_
          refine lv_bipush (v := 48) hx hb dX5_faultOf_24 (by decide) ?_
          refine lv_bipush (v := 57) hx hb dX5_faultOf_26 (by decide) ?_
          refine kpi (va_runS (As := [.int (pd (Int32.toNatClampNeg v2)), .int (48 : Int32), .int (57 : Int32)]) (rest := []) ⟨hx, hb, hml, hown, hts⟩ (k_X5_in l (pd (Int32.toNatClampNeg v2)) (48 : Int32) (57 : Int32) _ rfl) (va_cwS 3 hts (kGood (kgS mG_330 mG_331 mG_332 mG_326)) rfl rfl rfl hd_X5_in ⟨Nat.le_of_ble_eq_true rfl, Nat.le_of_ble_eq_true rfl⟩) preEq rfl rfl hl.1 rfl (lv_room (Nat.le_of_ble_eq_true rfl)) dX5_faultOf_28 ⟨Nat.zero_le _, Nat.zero_le _⟩) ?_
          refine lv_goto (tgt := 63) hx hb dX5_faultOf_31 (by decide) ?_
          exact hJ_63 v1 v2 (pd (Int32.toNatClampNeg v2)) (m_X5_in (pd (Int32.toNatClampNeg v2)) (48 : Int32) (57 : Int32)) _ _ _ hP hD hS (lv_sub hl [1, 2, 3, 0] rfl) hs
  exact hL_4 fu (0 : Int32) (0 : Int32) _ _ _ hP hD hS (lv_sub hl [2, 1, 0] rfl) hs
abbrev rm_X5_fault : Room := { frames := 2, cells := 0, slots := 0, locals := 46 }
theorem hd_X5_fault : yX5_fault.cls ≠ "java/lang/invoke/MethodHandle" ∧ yX5_fault.cls ≠ "java/lang/invoke/VarHandle" ∧ (parseMethodDescriptor yX5_fault.desc).map (fun d => d.parameters.length) = some 0 := by decide +kernel
set_option maxHeartbeats 4000000 in
set_option maxRecDepth 100000 in
theorem k_X5_fault (l : Launch) (dC : Nat → ClassId) (dI : Nat → Nat → Nat) (cI cZ cS : ClassId) (q5 q5bk q5nw q5to q5ne q5st q5pd q5cn q5ig q5ik : Nat) (sz : Nat) (th : Int32) (si : Int32) (sn : Int32) (re : Int32) (ac : Int32) (fa : Int32) (fw : Int32) (bk : Ar) (nw : Ar) (to : Ar) (ne : Ar) (st : Ar) (pd : Ar) (cn : Ar) (ig : Ar) (ik : Ar)  (r0 : Int32) (hs : m_X5_fault sn pd = some r0) : Met l yX5_fault (.code yX5_fault cX5_fault 1 (some .int) :: kG) rm_X5_fault (va_Pc [.ref q5] (kW (dC, dI) cI cZ cS [(q5, .inr (5, [.ref q5bk, .ref q5nw, .ref q5to, .int th, .ref q5ne, .int si, .ref q5st, .int sn, .ref q5pd, .int re, .int ac, .int fa, .int fw, .ref q5cn, .ref q5ig, .ref q5ik])), (q5bk, .inl (cI, 15, .inl bk)), (q5nw, .inl (cI, 15, .inl nw)), (q5to, .inl (cI, 12, .inl to)), (q5ne, .inl (cI, 8, .inl ne)), (q5st, .inl (cI, 16, .inl st)), (q5pd, .inl (cI, 60, .inl pd)), (q5cn, .inl (cI, 3, .inl cn)), (q5ig, .inl (cI, 120, .inl ig)), (q5ik, .inl (cZ, 2, .inl ik))] sz)) (kQi (dC, dI) [(q5, .inr (5, [.ref q5bk, .ref q5nw, .ref q5to, .int th, .ref q5ne, .int si, .ref q5st, .int sn, .ref q5pd, .int re, .int ac, .int fa, .int fw, .ref q5cn, .ref q5ig, .ref q5ik])), (q5bk, .inl (cI, 15, .inl bk)), (q5nw, .inl (cI, 15, .inl nw)), (q5to, .inl (cI, 12, .inl to)), (q5ne, .inl (cI, 8, .inl ne)), (q5st, .inl (cI, 16, .inl st)), (q5pd, .inl (cI, 60, .inl pd)), (q5cn, .inl (cI, 3, .inl cn)), (q5ig, .inl (cI, 120, .inl ig)), (q5ik, .inl (cZ, 2, .inl ik))] [(q5, .inr (5, [.ref q5bk, .ref q5nw, .ref q5to, .int th, .ref q5ne, .int si, .ref q5st, .int sn, .ref q5pd, .int re, .int ac, .int fa, .int fw, .ref q5cn, .ref q5ig, .ref q5ik])), (q5bk, .inl (cI, 15, .inl bk)), (q5nw, .inl (cI, 15, .inl nw)), (q5to, .inl (cI, 12, .inl to)), (q5ne, .inl (cI, 8, .inl ne)), (q5st, .inl (cI, 16, .inl st)), (q5pd, .inl (cI, 60, .inl pd)), (q5cn, .inl (cI, 3, .inl cn)), (q5ig, .inl (cI, 120, .inl ig)), (q5ik, .inl (cZ, 2, .inl ik))] sz r0) 0 0 (va_A [(q5, .inr (5, [.ref q5bk, .ref q5nw, .ref q5to, .int th, .ref q5ne, .int si, .ref q5st, .int sn, .ref q5pd, .int re, .int ac, .int fa, .int fw, .ref q5cn, .ref q5ig, .ref q5ik])), (q5bk, .inl (cI, 15, .inl bk)), (q5nw, .inl (cI, 15, .inl nw)), (q5to, .inl (cI, 12, .inl to)), (q5ne, .inl (cI, 8, .inl ne)), (q5st, .inl (cI, 16, .inl st)), (q5pd, .inl (cI, 60, .inl pd)), (q5cn, .inl (cI, 3, .inl cn)), (q5ig, .inl (cI, 120, .inl ig)), (q5ik, .inl (cZ, 2, .inl ik))] sz) := by
  refine kMi (own := RX5) (ty := .int) rfl (by decide) rfl ?_ (Nat.le_of_ble_eq_true rfl)
  intro p e s m args below meth c Q A CF hK hN hA hP hD hret ls hl
  have hS : va_S A s.heap s.heap [] := va_S.rf
  obtain ⟨hx, hb, hml, hown, hts⟩ := id CF
  have hl : lv_has ls 1 [(0, .ref q5)] := hl
  unfold m_X5_fault at hs
  refine lv_aload_n hx hb dX5_fault_0 rfl (lv_at hl 0 rfl) ?_
  obtain ⟨r_1, hc_2, hs⟩ := ob1_e hs
  refine kci (wr := []) (ws' := [(q5, .inr (5, [.ref q5bk, .ref q5nw, .ref q5to, .int th, .ref q5ne, .int si, .ref q5st, .int sn, .ref q5pd, .int re, .int ac, .int fa, .int fw, .ref q5cn, .ref q5ig, .ref q5ik])), (q5bk, .inl (cI, 15, .inl bk)), (q5nw, .inl (cI, 15, .inl nw)), (q5to, .inl (cI, 12, .inl to)), (q5ne, .inl (cI, 8, .inl ne)), (q5st, .inl (cI, 16, .inl st)), (q5pd, .inl (cI, 60, .inl pd)), (q5cn, .inl (cI, 3, .inl cn)), (q5ig, .inl (cI, 120, .inl ig)), (q5ik, .inl (cZ, 2, .inl ik))]) (va_runV (As := []) (rest := []) ⟨hx, hb, hml, hown, hts⟩ (k_X5_faultOf l dC dI cI cZ cS q5 q5bk q5nw q5to q5ne q5st q5pd q5cn q5ig q5ik s.heap.size th si sn re ac fa fw bk nw to ne st pd cn ig ik r_1 hc_2) (cwV 0 hts (kGood (kgV mG_347 mG_348 mG_349 mG_332 mG_345)) rfl rfl rfl ⟨rfl, hd_X5_faultOf⟩ ⟨Nat.le_of_ble_eq_true rfl, Nat.le_of_ble_eq_true rfl⟩) (kpV hK hN (hP.sub (ws' := [(q5, .inr (5, [.ref q5bk, .ref q5nw, .ref q5to, .int th, .ref q5ne, .int si, .ref q5st, .int sn, .ref q5pd, .int re, .int ac, .int fa, .int fw, .ref q5cn, .ref q5ig, .ref q5ik])), (q5bk, .inl (cI, 15, .inl bk)), (q5nw, .inl (cI, 15, .inl nw)), (q5to, .inl (cI, 12, .inl to)), (q5ne, .inl (cI, 8, .inl ne)), (q5st, .inl (cI, 16, .inl st)), (q5pd, .inl (cI, 60, .inl pd)), (q5cn, .inl (cI, 3, .inl cn)), (q5ig, .inl (cI, 120, .inl ig)), (q5ik, .inl (cZ, 2, .inl ik))]) [0, 1, 2, 3, 4, 5, 6, 7, 8, 9] rfl) (hD.sub (ws' := [(q5, .inr (5, [.ref q5bk, .ref q5nw, .ref q5to, .int th, .ref q5ne, .int si, .ref q5st, .int sn, .ref q5pd, .int re, .int ac, .int fa, .int fw, .ref q5cn, .ref q5ig, .ref q5ik])), (q5bk, .inl (cI, 15, .inl bk)), (q5nw, .inl (cI, 15, .inl nw)), (q5to, .inl (cI, 12, .inl to)), (q5ne, .inl (cI, 8, .inl ne)), (q5st, .inl (cI, 16, .inl st)), (q5pd, .inl (cI, 60, .inl pd)), (q5cn, .inl (cI, 3, .inl cn)), (q5ig, .inl (cI, 120, .inl ig)), (q5ik, .inl (cZ, 2, .inl ik))]) [0, 1, 2, 3, 4, 5, 6, 7, 8, 9] rfl rfl) rfl rfl rfl) rfl rfl hl.1 rfl (lv_room (Nat.le_of_ble_eq_true rfl)) dX5_fault_1 ⟨Nat.zero_le _, Nat.zero_le _⟩) hP hD hS hA [0, 1, 2, 3, 4, 5, 6, 7, 8, 9] [] [0, 1, 2, 3, 4, 5, 6, 7, 8, 9] rfl rfl rfl (by decide) rfl rfl (fun H locs hP hD hS => ?_)
  cases hs
  exact hret _ _ _ _ hP hD hS (vp_nar_int _) dX5_fault_4
abbrev rm_X5_asNow : Room := { frames := 0, cells := 0, slots := 0, locals := 0 }
theorem hd_X5_asNow : yX5_asNow.cls ≠ "java/lang/invoke/MethodHandle" ∧ yX5_asNow.cls ≠ "java/lang/invoke/VarHandle" ∧ (parseMethodDescriptor yX5_asNow.desc).map (fun d => d.parameters.length) = some 0 := by decide +kernel
set_option maxHeartbeats 4000000 in
set_option maxRecDepth 100000 in
theorem k_X5_asNow (l : Launch) (dC : Nat → ClassId) (dI : Nat → Nat → Nat) (cI cZ cS : ClassId) (q5 q5bk q5nw q5to q5ne q5st q5pd q5cn q5ig q5ik : Nat) (sz : Nat) (th : Int32) (si : Int32) (sn : Int32) (re : Int32) (ac : Int32) (fa : Int32) (fw : Int32) (bk : Ar) (nw : Ar) (to : Ar) (ne : Ar) (st : Ar) (pd : Ar) (cn : Ar) (ig : Ar) (ik : Ar)  (nw_o : Ar) (hs : m_X5_asNow bk nw = some nw_o) : Met l yX5_asNow (.code yX5_asNow cX5_asNow 2 none :: kG) rm_X5_asNow (va_Pc [.ref q5] (kW (dC, dI) cI cZ cS [(q5, .inr (5, [.ref q5bk, .ref q5nw, .ref q5to, .int th, .ref q5ne, .int si, .ref q5st, .int sn, .ref q5pd, .int re, .int ac, .int fa, .int fw, .ref q5cn, .ref q5ig, .ref q5ik])), (q5bk, .inl (cI, 15, .inl bk)), (q5nw, .inl (cI, 15, .inl nw)), (q5to, .inl (cI, 12, .inl to)), (q5ne, .inl (cI, 8, .inl ne)), (q5st, .inl (cI, 16, .inl st)), (q5pd, .inl (cI, 60, .inl pd)), (q5cn, .inl (cI, 3, .inl cn)), (q5ig, .inl (cI, 120, .inl ig)), (q5ik, .inl (cZ, 2, .inl ik))] sz)) (kQv (dC, dI) [(q5, .inr (5, [.ref q5bk, .ref q5nw, .ref q5to, .int th, .ref q5ne, .int si, .ref q5st, .int sn, .ref q5pd, .int re, .int ac, .int fa, .int fw, .ref q5cn, .ref q5ig, .ref q5ik])), (q5bk, .inl (cI, 15, .inl bk)), (q5nw, .inl (cI, 15, .inl nw)), (q5to, .inl (cI, 12, .inl to)), (q5ne, .inl (cI, 8, .inl ne)), (q5st, .inl (cI, 16, .inl st)), (q5pd, .inl (cI, 60, .inl pd)), (q5cn, .inl (cI, 3, .inl cn)), (q5ig, .inl (cI, 120, .inl ig)), (q5ik, .inl (cZ, 2, .inl ik))] [(q5, .inr (5, [.ref q5bk, .ref q5nw, .ref q5to, .int th, .ref q5ne, .int si, .ref q5st, .int sn, .ref q5pd, .int re, .int ac, .int fa, .int fw, .ref q5cn, .ref q5ig, .ref q5ik])), (q5bk, .inl (cI, 15, .inl bk)), (q5nw, .inl (cI, 15, .inl nw_o)), (q5to, .inl (cI, 12, .inl to)), (q5ne, .inl (cI, 8, .inl ne)), (q5st, .inl (cI, 16, .inl st)), (q5pd, .inl (cI, 60, .inl pd)), (q5cn, .inl (cI, 3, .inl cn)), (q5ig, .inl (cI, 120, .inl ig)), (q5ik, .inl (cZ, 2, .inl ik))] sz) 0 0 (va_A [(q5, .inr (5, [.ref q5bk, .ref q5nw, .ref q5to, .int th, .ref q5ne, .int si, .ref q5st, .int sn, .ref q5pd, .int re, .int ac, .int fa, .int fw, .ref q5cn, .ref q5ig, .ref q5ik])), (q5bk, .inl (cI, 15, .inl bk)), (q5nw, .inl (cI, 15, .inl nw)), (q5to, .inl (cI, 12, .inl to)), (q5ne, .inl (cI, 8, .inl ne)), (q5st, .inl (cI, 16, .inl st)), (q5pd, .inl (cI, 60, .inl pd)), (q5cn, .inl (cI, 3, .inl cn)), (q5ig, .inl (cI, 120, .inl ig)), (q5ik, .inl (cZ, 2, .inl ik))] sz) := by
  refine kMv (own := RX5) (by decide) rfl ?_ (Nat.le_of_ble_eq_true rfl)
  intro p e s m args below meth c Q A CF hK hN hA hP hD hret ls hl
  have hS : va_S A s.heap s.heap [] := va_S.rf
  obtain ⟨hx, hb, hml, hown, hts⟩ := id CF
  have hl : lv_has ls 2 [(0, .ref q5)] := hl
  unfold m_X5_asNow at hs
  refine lv_iconst (v := 0) hx hb dX5_asNow_0 (by decide) ?_
  refine lv_istore_n (lv' := [(1, .int (0 : Int32)), (0, .ref q5)]) hx hb dX5_asNow_1 rfl hl (by decide) rfl (fun ls hl => ?_)
  have hL_2 : ∀ (n : Nat) (v1 : Int32) (nw : Ar) (H : Heap) (locs : List Loc) (ls : Array Slot), va_P (dC, dI) vwCl [(q5, .inr (5, [.ref q5bk, .ref q5nw, .ref q5to, .int th, .ref q5ne, .int si, .ref q5st, .int sn, .ref q5pd, .int re, .int ac, .int fa, .int fw, .ref q5cn, .ref q5ig, .ref q5ik])), (q5bk, .inl (cI, 15, .inl bk)), (q5nw, .inl (cI, 15, .inl nw)), (q5to, .inl (cI, 12, .inl to)), (q5ne, .inl (cI, 8, .inl ne)), (q5st, .inl (cI, 16, .inl st)), (q5pd, .inl (cI, 60, .inl pd)), (q5cn, .inl (cI, 3, .inl cn)), (q5ig, .inl (cI, 120, .inl ig)), (q5ik, .inl (cZ, 2, .inl ik))] H → va_D A [(q5, .inr (5, [.ref q5bk, .ref q5nw, .ref q5to, .int th, .ref q5ne, .int si, .ref q5st, .int sn, .ref q5pd, .int re, .int ac, .int fa, .int fw, .ref q5cn, .ref q5ig, .ref q5ik])), (q5bk, .inl (cI, 15, .inl bk)), (q5nw, .inl (cI, 15, .inl nw)), (q5to, .inl (cI, 12, .inl to)), (q5ne, .inl (cI, 8, .inl ne)), (q5st, .inl (cI, 16, .inl st)), (q5pd, .inl (cI, 60, .inl pd)), (q5cn, .inl (cI, 3, .inl cn)), (q5ig, .inl (cI, 120, .inl ig)), (q5ik, .inl (cZ, 2, .inl ik))] → va_S A s.heap H locs → lv_has ls 2 [(0, .ref q5), (1, .int v1)] → L_X5_asNow_2 bk n v1 nw = some nw_o → W p l e rm_X5_asNow s m args below meth c H locs 0 0 Q (F0 m 2 ls []) := by
    intro n
    induction n with
    | zero =>
      intro v1 nw H locs ls hP hD hS hl hs
      replace hs : (none : Option (Ar)) = some nw_o := hs
      cases hs
    | succ n_2 ih_2 =>
      intro v1 nw H locs ls hP hD hS hl hs
      replace hs : b_X5_asNow_2  (L_X5_asNow_2 bk n_2) bk v1 nw = some nw_o := hs
      unfold b_X5_asNow_2 at hs
      refine lv_iload_n hx hb dX5_asNow_2 rfl (lv_at hl 1 rfl) ?_
      refine lv_bipush (v := 15) hx hb dX5_asNow_3 (by decide) ?_
      refine lv_icmp_ge (tgt := 26) hx hb dX5_asNow_5 (by decide) (fun c_1 => ?_) (fun c_1 => ?_)
      · replace hs := if_p c_1 hs
        cases hs
        exact hret _ _ _ _ hP hD hS dX5_asNow_26
      · replace hs := if_n c_1 hs
        refine lv_aload_n hx hb dX5_asNow_8 rfl (lv_at hl 0 rfl) ?_
        refine va_get (D := (dC, dI)) (ci := 5) (v := .ref q5nw) (C := RX5) (T := TX5) (N := 16) hx hb hts (fun w h => kg1 (iG_5 w h)) hown hK hP 0 rfl rfl 1 (by decide) (hts _ (kg1 mG_317)) (fun _ h9 => h9) rfl dX5_asNow_9 ?_
        refine lv_iload_n hx hb dX5_asNow_12 rfl (lv_at hl 1 rfl) ?_
        refine lv_aload_n hx hb dX5_asNow_13 rfl (lv_at hl 0 rfl) ?_
        refine va_get (D := (dC, dI)) (ci := 5) (v := .ref q5bk) (C := RX5) (T := TX5) (N := 16) hx hb hts (fun w h => kg1 (iG_5 w h)) hown hK hP 0 rfl rfl 0 (by decide) (hts _ (kg1 mG_316)) (fun _ h9 => h9) rfl dX5_asNow_14 ?_
        refine lv_iload_n hx hb dX5_asNow_17 rfl (lv_at hl 1 rfl) ?_
        obtain ⟨hg_2, hs⟩ := gd_e hs
        refine kald hx hb hK hP 1 0 rfl rfl (j := (Int32.toNatClampNeg v1)) rfl (inb_e hg_2) dX5_asNow_18 ?_
        refine kast hx hb hK hP hD hS 2 0 rfl rfl (j := (Int32.toNatClampNeg v1)) rfl (inb_e hg_2) dX5_asNow_19 (fun H locs hP hD hS => ?_)
        have hP : va_P (dC, dI) vwCl [(q5, .inr (5, [.ref q5bk, .ref q5nw, .ref q5to, .int th, .ref q5ne, .int si, .ref q5st, .int sn, .ref q5pd, .int re, .int ac, .int fa, .int fw, .ref q5cn, .ref q5ig, .ref q5ik])), (q5bk, .inl (cI, 15, .inl bk)), (q5nw, .inl (cI, 15, .inl (upd nw (Int32.toNatClampNeg v1) (bk (Int32.toNatClampNeg v1))))), (q5to, .inl (cI, 12, .inl to)), (q5ne, .inl (cI, 8, .inl ne)), (q5st, .inl (cI, 16, .inl st)), (q5pd, .inl (cI, 60, .inl pd)), (q5cn, .inl (cI, 3, .inl cn)), (q5ig, .inl (cI, 120, .inl ig)), (q5ik, .inl (cZ, 2, .inl ik))] H := hP
        have hD : va_D A [(q5, .inr (5, [.ref q5bk, .ref q5nw, .ref q5to, .int th, .ref q5ne, .int si, .ref q5st, .int sn, .ref q5pd, .int re, .int ac, .int fa, .int fw, .ref q5cn, .ref q5ig, .ref q5ik])), (q5bk, .inl (cI, 15, .inl bk)), (q5nw, .inl (cI, 15, .inl (upd nw (Int32.toNatClampNeg v1) (bk (Int32.toNatClampNeg v1))))), (q5to, .inl (cI, 12, .inl to)), (q5ne, .inl (cI, 8, .inl ne)), (q5st, .inl (cI, 16, .inl st)), (q5pd, .inl (cI, 60, .inl pd)), (q5cn, .inl (cI, 3, .inl cn)), (q5ig, .inl (cI, 120, .inl ig)), (q5ik, .inl (cZ, 2, .inl ik))] := hD
        refine lv_iinc (v := (v1 + 1)) (lv' := [(1, .int (v1 + 1)), (0, .ref q5)]) hx hb dX5_asNow_20 hl (k := 1) rfl rfl (by decide) rfl (fun ls hl => ?_)
        refine lv_goto (tgt := 2) hx hb dX5_asNow_23 (by decide) ?_
        exact ih_2 (v1 + 1) (upd nw (Int32.toNatClampNeg v1) (bk (Int32.toNatClampNeg v1))) _ _ _ hP hD hS (lv_sub hl [1, 0] rfl) hs
  exact hL_2 fu (0 : Int32) nw _ _ _ hP hD hS (lv_sub hl [1, 0] rfl) hs
abbrev rm_X5_less : Room := { frames := 1, cells := 0, slots := 0, locals := 21 }
theorem hd_X5_less : yX5_less.cls ≠ "java/lang/invoke/MethodHandle" ∧ yX5_less.cls ≠ "java/lang/invoke/VarHandle" ∧ (parseMethodDescriptor yX5_less.desc).map (fun d => d.parameters.length) = some 2 := by decide +kernel
set_option maxHeartbeats 4000000 in
set_option maxRecDepth 100000 in
theorem k_X5_less (l : Launch) (dC : Nat → ClassId) (dI : Nat → Nat → Nat) (cI cZ cS : ClassId) (q5 q5bk q5nw q5to q5ne q5st q5pd q5cn q5ig q5ik : Nat) (sz : Nat) (th : Int32) (si : Int32) (sn : Int32) (re : Int32) (ac : Int32) (fa : Int32) (fw : Int32) (bk : Ar) (nw : Ar) (to : Ar) (ne : Ar) (st : Ar) (pd : Ar) (cn : Ar) (ig : Ar) (ik : Ar) (v1 : Int32) (v2 : Int32) (nw_o : Ar) (hs : m_X5_less v1 v2 th nw = some nw_o) : Met l yX5_less (.code yX5_less cX5_less 4 none :: kG) rm_X5_less (va_Pc [.ref q5, .int v1, .int v2] (kW (dC, dI) cI cZ cS [(q5, .inr (5, [.ref q5bk, .ref q5nw, .ref q5to, .int th, .ref q5ne, .int si, .ref q5st, .int sn, .ref q5pd, .int re, .int ac, .int fa, .int fw, .ref q5cn, .ref q5ig, .ref q5ik])), (q5bk, .inl (cI, 15, .inl bk)), (q5nw, .inl (cI, 15, .inl nw)), (q5to, .inl (cI, 12, .inl to)), (q5ne, .inl (cI, 8, .inl ne)), (q5st, .inl (cI, 16, .inl st)), (q5pd, .inl (cI, 60, .inl pd)), (q5cn, .inl (cI, 3, .inl cn)), (q5ig, .inl (cI, 120, .inl ig)), (q5ik, .inl (cZ, 2, .inl ik))] sz)) (kQv (dC, dI) [(q5, .inr (5, [.ref q5bk, .ref q5nw, .ref q5to, .int th, .ref q5ne, .int si, .ref q5st, .int sn, .ref q5pd, .int re, .int ac, .int fa, .int fw, .ref q5cn, .ref q5ig, .ref q5ik])), (q5bk, .inl (cI, 15, .inl bk)), (q5nw, .inl (cI, 15, .inl nw)), (q5to, .inl (cI, 12, .inl to)), (q5ne, .inl (cI, 8, .inl ne)), (q5st, .inl (cI, 16, .inl st)), (q5pd, .inl (cI, 60, .inl pd)), (q5cn, .inl (cI, 3, .inl cn)), (q5ig, .inl (cI, 120, .inl ig)), (q5ik, .inl (cZ, 2, .inl ik))] [(q5, .inr (5, [.ref q5bk, .ref q5nw, .ref q5to, .int th, .ref q5ne, .int si, .ref q5st, .int sn, .ref q5pd, .int re, .int ac, .int fa, .int fw, .ref q5cn, .ref q5ig, .ref q5ik])), (q5bk, .inl (cI, 15, .inl bk)), (q5nw, .inl (cI, 15, .inl nw_o)), (q5to, .inl (cI, 12, .inl to)), (q5ne, .inl (cI, 8, .inl ne)), (q5st, .inl (cI, 16, .inl st)), (q5pd, .inl (cI, 60, .inl pd)), (q5cn, .inl (cI, 3, .inl cn)), (q5ig, .inl (cI, 120, .inl ig)), (q5ik, .inl (cZ, 2, .inl ik))] sz) 0 0 (va_A [(q5, .inr (5, [.ref q5bk, .ref q5nw, .ref q5to, .int th, .ref q5ne, .int si, .ref q5st, .int sn, .ref q5pd, .int re, .int ac, .int fa, .int fw, .ref q5cn, .ref q5ig, .ref q5ik])), (q5bk, .inl (cI, 15, .inl bk)), (q5nw, .inl (cI, 15, .inl nw)), (q5to, .inl (cI, 12, .inl to)), (q5ne, .inl (cI, 8, .inl ne)), (q5st, .inl (cI, 16, .inl st)), (q5pd, .inl (cI, 60, .inl pd)), (q5cn, .inl (cI, 3, .inl cn)), (q5ig, .inl (cI, 120, .inl ig)), (q5ik, .inl (cZ, 2, .inl ik))] sz) := by
  refine kMv (own := RX5) (by decide) rfl ?_ (Nat.le_of_ble_eq_true rfl)
  intro p e s m args below meth c Q A CF hK hN hA hP hD hret ls hl
  have hS : va_S A s.heap s.heap [] := va_S.rf
  obtain ⟨hx, hb, hml, hown, hts⟩ := id CF
  have hl : lv_has ls 4 [(0, .ref q5), (1, .int v1), (2, .int v2)] := hl
  unfold m_X5_less at hs
  refine lv_aload_n hx hb dX5_less_0 rfl (lv_at hl 0 rfl) ?_
  refine va_get (D := (dC, dI)) (ci := 5) (v := .int th) (C := RX5) (T := TX5) (N := 16) hx hb hts (fun w h => kg1 (iG_5 w h)) hown hK hP 0 rfl rfl 3 (by decide) (hts _ (kg1 mG_337)) (fun _ h9 => h9) rfl dX5_less_1 ?_
  refine lv_iload_n hx hb dX5_less_4 rfl (lv_at hl 1 rfl) ?_
  refine kpi (va_runS (As := [.int th, .int v1]) (rest := []) ⟨hx, hb, hml, hown, hts⟩ (k_X5_has l th v1 _ rfl) (va_cwS 2 hts (kGood (kgS mG_352 mG_353 mG_332 mG_327)) rfl rfl rfl hd_X5_has ⟨Nat.le_of_ble_eq_true rfl, Nat.le_of_ble_eq_true rfl⟩) preEq rfl rfl hl.1 rfl (lv_room (Nat.le_of_ble_eq_true rfl)) dX5_less_5 ⟨Nat.zero_le _, Nat.zero_le _⟩) ?_
  have hJ_25 : ∀ (s25_0 : Int32) (nw : Ar) (H : Heap) (locs : List Loc) (ls : Array Slot), va_P (dC, dI) vwCl [(q5, .inr (5, [.ref q5bk, .ref q5nw, .ref q5to, .int th, .ref q5ne, .int si, .ref q5st, .int sn, .ref q5pd, .int re, .int ac, .int fa, .int fw, .ref q5cn, .ref q5ig, .ref q5ik])), (q5bk, .inl (cI, 15, .inl bk)), (q5nw, .inl (cI, 15, .inl nw)), (q5to, .inl (cI, 12, .inl to)), (q5ne, .inl (cI, 8, .inl ne)), (q5st, .inl (cI, 16, .inl st)), (q5pd, .inl (cI, 60, .inl pd)), (q5cn, .inl (cI, 3, .inl cn)), (q5ig, .inl (cI, 120, .inl ig)), (q5ik, .inl (cZ, 2, .inl ik))] H → va_D A [(q5, .inr (5, [.ref q5bk, .ref q5nw, .ref q5to, .int th, .ref q5ne, .int si, .ref q5st, .int sn, .ref q5pd, .int re, .int ac, .int fa, .int fw, .ref q5cn, .ref q5ig, .ref q5ik])), (q5bk, .inl (cI, 15, .inl bk)), (q5nw, .inl (cI, 15, .inl nw)), (q5to, .inl (cI, 12, .inl to)), (q5ne, .inl (cI, 8, .inl ne)), (q5st, .inl (cI, 16, .inl st)), (q5pd, .inl (cI, 60, .inl pd)), (q5cn, .inl (cI, 3, .inl cn)), (q5ig, .inl (cI, 120, .inl ig)), (q5ik, .inl (cZ, 2, .inl ik))] → va_S A s.heap H locs → lv_has ls 4 [(0, .ref q5), (1, .int v1), (2, .int v2)] → j_X5_less_25 v1 v2 s25_0 nw = some nw_o → W p l e rm_X5_less s m args below meth c H locs 0 0 Q (F0 m 25 ls [.int s25_0]) := by
    intro s25_0 nw H locs ls hP hD hS hl hs
    unfold j_X5_less_25 at hs
    refine lv_istore_n (lv' := [(3, .int s25_0), (0, .ref q5), (1, .int v1), (2, .int v2)]) hx hb dX5_less_25 rfl hl (by decide) rfl (fun ls hl => ?_)
    refine lv_aload_n hx hb dX5_less_26 rfl (lv_at hl 1 rfl) ?_
    refine va_get (D := (dC, dI)) (ci := 5) (v := .ref q5nw) (C := RX5) (T := TX5) (N := 16) hx hb hts (fun w h => kg1 (iG_5 w h)) hown hK hP 0 rfl rfl 1 (by decide) (hts _ (kg1 mG_317)) (fun _ h9 => h9) rfl dX5_less_27 ?_
    refine lv_iload_n hx hb dX5_less_30 rfl (lv_at hl 2 rfl) ?_
    refine lv_aload_n hx hb dX5_less_31 rfl (lv_at hl 1 rfl) ?_
    refine va_get (D := (dC, dI)) (ci := 5) (v := .ref q5nw) (C := RX5) (T := TX5) (N := 16) hx hb hts (fun w h => kg1 (iG_5 w h)) hown hK hP 0 rfl rfl 1 (by decide) (hts _ (kg1 mG_317)) (fun _ h9 => h9) rfl dX5_less_32 ?_
    refine lv_iload_n hx hb dX5_less_35 rfl (lv_at hl 2 rfl) ?_
    obtain ⟨hg_4, hs⟩ := gd_e hs
    refine kald hx hb hK hP 2 0 rfl rfl (j := (Int32.toNatClampNeg v1)) rfl (inb_e hg_4) dX5_less_36 ?_
    refine lv_iload_n hx hb dX5_less_37 rfl (lv_at hl 3 rfl) ?_
    refine lv_isub hx hb dX5_less_38 ?_
    refine lv_iload_n hx hb dX5_less_39 rfl (lv_at hl 0 rfl) ?_
    have hJ_55 : ∀ (s55_0 : Int32) (s55_1 : Int32) (nw : Ar) (H : Heap) (locs : List Loc) (ls : Array Slot), va_P (dC, dI) vwCl [(q5, .inr (5, [.ref q5bk, .ref q5nw, .ref q5to, .int th, .ref q5ne, .int si, .ref q5st, .int sn, .ref q5pd, .int re, .int ac, .int fa, .int fw, .ref q5cn, .ref q5ig, .ref q5ik])), (q5bk, .inl (cI, 15, .inl bk)), (q5nw, .inl (cI, 15, .inl nw)), (q5to, .inl (cI, 12, .inl to)), (q5ne, .inl (cI, 8, .inl ne)), (q5st, .inl (cI, 16, .inl st)), (q5pd, .inl (cI, 60, .inl pd)), (q5cn, .inl (cI, 3, .inl cn)), (q5ig, .inl (cI, 120, .inl ig)), (q5ik, .inl (cZ, 2, .inl ik))] H → va_D A [(q5, .inr (5, [.ref q5bk, .ref q5nw, .ref q5to, .int th, .ref q5ne, .int si, .ref q5st, .int sn, .ref q5pd, .int re, .int ac, .int fa, .int fw, .ref q5cn, .ref q5ig, .ref q5ik])), (q5bk, .inl (cI, 15, .inl bk)), (q5nw, .inl (cI, 15, .inl nw)), (q5to, .inl (cI, 12, .inl to)), (q5ne, .inl (cI, 8, .inl ne)), (q5st, .inl (cI, 16, .inl st)), (q5pd, .inl (cI, 60, .inl pd)), (q5cn, .inl (cI, 3, .inl cn)), (q5ig, .inl (cI, 120, .inl ig)), (q5ik, .inl (cZ, 2, .inl ik))] → va_S A s.heap H locs → lv_has ls 4 [(0, .ref q5)] → j_X5_less_55 s55_0 s55_1 nw = some nw_o → W p l e rm_X5_less s m args below meth c H locs 0 0 Q (F0 m 55 ls [.int s55_0, .int s55_1, .ref q5nw]) := by
      intro s55_0 s55_1 nw H locs ls hP hD hS hl hs
      unfold j_X5_less_55 at hs
      obtain ⟨hg_6, hs⟩ := gd_e hs
      refine kast hx hb hK hP hD hS 2 0 rfl rfl (j := (Int32.toNatClampNeg s55_1)) rfl (inb_e hg_6) dX5_less_55 (fun H locs hP hD hS => ?_)
      have hP : va_P (dC, dI) vwCl [(q5, .inr (5, [.ref q5bk, .ref q5nw, .ref q5to, .int th, .ref q5ne, .int si, .ref q5st, .int sn, .ref q5pd, .int re, .int ac, .int fa, .int fw, .ref q5cn, .ref q5ig, .ref q5ik])), (q5bk, .inl (cI, 15, .inl bk)), (q5nw, .inl (cI, 15, .inl (upd nw (Int32.toNatClampNeg s55_1) s55_0))), (q5to, .inl (cI, 12, .inl to)), (q5ne, .inl (cI, 8, .inl ne)), (q5st, .inl (cI, 16, .inl st)), (q5pd, .inl (cI, 60, .inl pd)), (q5cn, .inl (cI, 3, .inl cn)), (q5ig, .inl (cI, 120, .inl ig)), (q5ik, .inl (cZ, 2, .inl ik))] H := hP
      have hD : va_D A [(q5, .inr (5, [.ref q5bk, .ref q5nw, .ref q5to, .int th, .ref q5ne, .int si, .ref q5st, .int sn, .ref q5pd, .int re, .int ac, .int fa, .int fw, .ref q5cn, .ref q5ig, .ref q5ik])), (q5bk, .inl (cI, 15, .inl bk)), (q5nw, .inl (cI, 15, .inl (upd nw (Int32.toNatClampNeg s55_1) s55_0))), (q5to, .inl (cI, 12, .inl to)), (q5ne, .inl (cI, 8, .inl ne)), (q5st, .inl (cI, 16, .inl st)), (q5pd, .inl (cI, 60, .inl pd)), (q5cn, .inl (cI, 3, .inl cn)), (q5ig, .inl (cI, 120, .inl ig)), (q5ik, .inl (cZ, 2, .inl ik))] := hD
      cases hs
      exact hret _ _ _ _ hP hD hS dX5_less_56
    refine lv_icmp_ge (tgt := 47) hx hb dX5_less_40 (by decide) (fun c_5 => ?_) (fun c_5 => ?_)
    · replace hs := if_p c_5 hs
      refine lv_aload_n hx hb dX5_less_47 rfl (lv_at hl 1 rfl) ?_
      refine va_get (D := (dC, dI)) (ci := 5) (v := .ref q5nw) (C := RX5) (T := TX5) (N := 16) hx hb hts (fun w h => kg1 (iG_5 w h)) hown hK hP 0 rfl rfl 1 (by decide) (hts _ (kg1 mG_317)) (fun _ h9 => h9) rfl dX5_less_48 ?_
      refine lv_iload_n hx hb dX5_less_51 rfl (lv_at hl 2 rfl) ?_
      refine kald hx hb hK hP 2 0 rfl rfl (j := (Int32.toNatClampNeg v1)) rfl (inb_e hg_4) dX5_less_52 ?_
      refine lv_iload_n hx hb dX5_less_53 rfl (lv_at hl 3 rfl) ?_
      refine lv_isub hx hb dX5_less_54 ?_
      exact hJ_55 ((nw (Int32.toNatClampNeg v1)) - v2) v1 nw _ _ _ hP hD hS (lv_sub hl [1] rfl) hs
    · replace hs := if_n c_5 hs
      refine lv_iload_n hx hb dX5_less_43 rfl (lv_at hl 0 rfl) ?_
      refine lv_goto (tgt := 55) hx hb dX5_less_44 (by decide) ?_
      exact hJ_55 s25_0 v1 nw _ _ _ hP hD hS (lv_sub hl [1] rfl) hs
  refine lv_if_eq (tgt := 24) hx hb dX5_less_8 (by decide) (fun c_1 => ?_) (fun c_1 => ?_)
  · replace hs := if_p c_1 hs
    refine lv_iconst (v := 0) hx hb dX5_less_24 (by decide) ?_
    exact hJ_25 (0 : Int32) nw _ _ _ hP hD hS (lv_sub hl [0, 1, 2] rfl) hs
  · replace hs := if_n c_1 hs
    refine lv_aload_n hx hb dX5_less_11 rfl (lv_at hl 0 rfl) ?_
    refine va_get (D := (dC, dI)) (ci := 5) (v := .ref q5nw) (C := RX5) (T := TX5) (N := 16) hx hb hts (fun w h => kg1 (iG_5 w h)) hown hK hP 0 rfl rfl 1 (by decide) (hts _ (kg1 mG_317)) (fun _ h9 => h9) rfl dX5_less_12 ?_
    refine lv_iload_n hx hb dX5_less_15 rfl (lv_at hl 1 rfl) ?_
    obtain ⟨hg_2, hs⟩ := gd_e hs
    refine kald hx hb hK hP 2 0 rfl rfl (j := (Int32.toNatClampNeg v1)) rfl (inb_e hg_2) dX5_less_16 ?_
    refine lv_if_le (tgt := 24) hx hb dX5_less_17 (by decide) (fun c_3 => ?_) (fun c_3 => ?_)
    · replace hs := if_p c_3 hs
      refine lv_iconst (v := 0) hx hb dX5_less_24 (by decide) ?_
      exact hJ_25 (0 : Int32) nw _ _ _ hP hD hS (lv_sub hl [0, 1, 2] rfl) hs
    · replace hs := if_n c_3 hs
      refine lv_iconst (v := 1) hx hb dX5_less_20 (by decide) ?_
      refine lv_goto (tgt := 25) hx hb dX5_less_21 (by decide) ?_
      exact hJ_25 (1 : Int32) nw _ _ _ hP hD hS (lv_sub hl [0, 1, 2] rfl) hs
abbrev rm_X5_blow : Room := { frames := 2, cells := 0, slots := 0, locals := 44 }
theorem hd_X5_blow : yX5_blow.cls ≠ "java/lang/invoke/MethodHandle" ∧ yX5_blow.cls ≠ "java/lang/invoke/VarHandle" ∧ (parseMethodDescriptor yX5_blow.desc).map (fun d => d.parameters.length) = some 1 := by decide +kernel
set_option maxHeartbeats 4000000 in
set_option maxRecDepth 100000 in
theorem k_X5_blow (l : Launch) (dC : Nat → ClassId) (dI : Nat → Nat → Nat) (cI cZ cS : ClassId) (q5 q5bk q5nw q5to q5ne q5st q5pd q5cn q5ig q5ik : Nat) (sz : Nat) (th : Int32) (si : Int32) (sn : Int32) (re : Int32) (ac : Int32) (fa : Int32) (fw : Int32) (bk : Ar) (nw : Ar) (to : Ar) (ne : Ar) (st : Ar) (pd : Ar) (cn : Ar) (ig : Ar) (ik : Ar) (v1 : Int32) (nw_o : Ar) (hs : m_X5_blow v1 th nw to = some nw_o) : Met l yX5_blow (.code yX5_blow cX5_blow 3 none :: kG) rm_X5_blow (va_Pc [.ref q5, .int v1] (kW (dC, dI) cI cZ cS [(q5, .inr (5, [.ref q5bk, .ref q5nw, .ref q5to, .int th, .ref q5ne, .int si, .ref q5st, .int sn, .ref q5pd, .int re, .int ac, .int fa, .int fw, .ref q5cn, .ref q5ig, .ref q5ik])), (q5bk, .inl (cI, 15, .inl bk)), (q5nw, .inl (cI, 15, .inl nw)), (q5to, .inl (cI, 12, .inl to)), (q5ne, .inl (cI, 8, .inl ne)), (q5st, .inl (cI, 16, .inl st)), (q5pd, .inl (cI, 60, .inl pd)), (q5cn, .inl (cI, 3, .inl cn)), (q5ig, .inl (cI, 120, .inl ig)), (q5ik, .inl (cZ, 2, .inl ik))] sz)) (kQv (dC, dI) [(q5, .inr (5, [.ref q5bk, .ref q5nw, .ref q5to, .int th, .ref q5ne, .int si, .ref q5st, .int sn, .ref q5pd, .int re, .int ac, .int fa, .int fw, .ref q5cn, .ref q5ig, .ref q5ik])), (q5bk, .inl (cI, 15, .inl bk)), (q5nw, .inl (cI, 15, .inl nw)), (q5to, .inl (cI, 12, .inl to)), (q5ne, .inl (cI, 8, .inl ne)), (q5st, .inl (cI, 16, .inl st)), (q5pd, .inl (cI, 60, .inl pd)), (q5cn, .inl (cI, 3, .inl cn)), (q5ig, .inl (cI, 120, .inl ig)), (q5ik, .inl (cZ, 2, .inl ik))] [(q5, .inr (5, [.ref q5bk, .ref q5nw, .ref q5to, .int th, .ref q5ne, .int si, .ref q5st, .int sn, .ref q5pd, .int re, .int ac, .int fa, .int fw, .ref q5cn, .ref q5ig, .ref q5ik])), (q5bk, .inl (cI, 15, .inl bk)), (q5nw, .inl (cI, 15, .inl nw_o)), (q5to, .inl (cI, 12, .inl to)), (q5ne, .inl (cI, 8, .inl ne)), (q5st, .inl (cI, 16, .inl st)), (q5pd, .inl (cI, 60, .inl pd)), (q5cn, .inl (cI, 3, .inl cn)), (q5ig, .inl (cI, 120, .inl ig)), (q5ik, .inl (cZ, 2, .inl ik))] sz) 0 0 (va_A [(q5, .inr (5, [.ref q5bk, .ref q5nw, .ref q5to, .int th, .ref q5ne, .int si, .ref q5st, .int sn, .ref q5pd, .int re, .int ac, .int fa, .int fw, .ref q5cn, .ref q5ig, .ref q5ik])), (q5bk, .inl (cI, 15, .inl bk)), (q5nw, .inl (cI, 15, .inl nw)), (q5to, .inl (cI, 12, .inl to)), (q5ne, .inl (cI, 8, .inl ne)), (q5st, .inl (cI, 16, .inl st)), (q5pd, .inl (cI, 60, .inl pd)), (q5cn, .inl (cI, 3, .inl cn)), (q5ig, .inl (cI, 120, .inl ig)), (q5ik, .inl (cZ, 2, .inl ik))] sz) := by
  refine kMv (own := RX5) (by decide) rfl ?_ (Nat.le_of_ble_eq_true rfl)
  intro p e s m args below meth c Q A CF hK hN hA hP hD hret ls hl
  have hS : va_S A s.heap s.heap [] := va_S.rf
  obtain ⟨hx, hb, hml, hown, hts⟩ := id CF
  have hl : lv_has ls 3 [(0, .ref q5), (1, .int v1)] := hl
  unfold m_X5_blow at hs
  refine lv_iconst (v := 0) hx hb dX5_blow_0 (by decide) ?_
  refine lv_istore_n (lv' := [(2, .int (0 : Int32)), (0, .ref q5), (1, .int v1)]) hx hb dX5_blow_1 rfl hl (by decide) rfl (fun ls hl => ?_)
  have hL_2 : ∀ (n : Nat) (v2 : Int32) (nw : Ar) (H : Heap) (locs : List Loc) (ls : Array Slot), va_P (dC, dI) vwCl [(q5, .inr (5, [.ref q5bk, .ref q5nw, .ref q5to, .int th, .ref q5ne, .int si, .ref q5st, .int sn, .ref q5pd, .int re, .int ac, .int fa, .int fw, .ref q5cn, .ref q5ig, .ref q5ik])), (q5bk, .inl (cI, 15, .inl bk)), (q5nw, .inl (cI, 15, .inl nw)), (q5to, .inl (cI, 12, .inl to)), (q5ne, .inl (cI, 8, .inl ne)), (q5st, .inl (cI, 16, .inl st)), (q5pd, .inl (cI, 60, .inl pd)), (q5cn, .inl (cI, 3, .inl cn)), (q5ig, .inl (cI, 120, .inl ig)), (q5ik, .inl (cZ, 2, .inl ik))] H → va_D A [(q5, .inr (5, [.ref q5bk, .ref q5nw, .ref q5to, .int th, .ref q5ne, .int si, .ref q5st, .int sn, .ref q5pd, .int re, .int ac, .int fa, .int fw, .ref q5cn, .ref q5ig, .ref q5ik])), (q5bk, .inl (cI, 15, .inl bk)), (q5nw, .inl (cI, 15, .inl nw)), (q5to, .inl (cI, 12, .inl to)), (q5ne, .inl (cI, 8, .inl ne)), (q5st, .inl (cI, 16, .inl st)), (q5pd, .inl (cI, 60, .inl pd)), (q5cn, .inl (cI, 3, .inl cn)), (q5ig, .inl (cI, 120, .inl ig)), (q5ik, .inl (cZ, 2, .inl ik))] → va_S A s.heap H locs → lv_has ls 3 [(0, .ref q5), (1, .int v1), (2, .int v2)] → L_X5_blow_2 v1 th to n v2 nw = some nw_o → W p l e rm_X5_blow s m args below meth c H locs 0 0 Q (F0 m 2 ls []) := by
    intro n
    induction n with
    | zero =>
      intro v2 nw H locs ls hP hD hS hl hs
      replace hs : (none : Option (Ar)) = some nw_o := hs
      cases hs
    | succ n_2 ih_2 =>
      intro v2 nw H locs ls hP hD hS hl hs
      replace hs : b_X5_blow_2  (L_X5_blow_2 v1 th to n_2) v1 th to v2 nw = some nw_o := hs
      unfold b_X5_blow_2 at hs
      refine lv_iload_n hx hb dX5_blow_2 rfl (lv_at hl 2 rfl) ?_
      refine lv_bipush (v := 12) hx hb dX5_blow_3 (by decide) ?_
      refine lv_icmp_ge (tgt := 29) hx hb dX5_blow_5 (by decide) (fun c_1 => ?_) (fun c_1 => ?_)
      · replace hs := if_p c_1 hs
        cases hs
        exact hret _ _ _ _ hP hD hS dX5_blow_29
      · replace hs := if_n c_1 hs
        refine lv_aload_n hx hb dX5_blow_8 rfl (lv_at hl 0 rfl) ?_
        refine lv_iload_n hx hb dX5_blow_9 rfl (lv_at hl 2 rfl) ?_
        refine lv_iload_n hx hb dX5_blow_10 rfl (lv_at hl 1 rfl) ?_
        refine lv_aload_n hx hb dX5_blow_11 rfl (lv_at hl 0 rfl) ?_
        refine va_get (D := (dC, dI)) (ci := 5) (v := .ref q5to) (C := RX5) (T := TX5) (N := 16) hx hb hts (fun w h => kg1 (iG_5 w h)) hown hK hP 0 rfl rfl 2 (by decide) (hts _ (kg1 mG_318)) (fun _ h9 => h9) rfl dX5_blow_12 ?_
        refine lv_iload_n hx hb dX5_blow_15 rfl (lv_at hl 2 rfl) ?_
        obtain ⟨hg_2, hs⟩ := gd_e hs
        refine kald hx hb hK hP 3 0 rfl rfl (j := (Int32.toNatClampNeg v2)) rfl (inb_e hg_2) dX5_blow_16 ?_
        refine kpi (va_runS (As := [.int v1, .int (to (Int32.toNatClampNeg v2))]) (rest := [.int v2, .ref q5]) ⟨hx, hb, hml, hown, hts⟩ (k_X5_shakes l v1 (to (Int32.toNatClampNeg v2)) _ rfl) (va_cwS 2 hts (kGood (kgS mG_356 mG_357 mG_332 mG_354)) rfl rfl rfl hd_X5_shakes ⟨Nat.le_of_ble_eq_true rfl, Nat.le_of_ble_eq_true rfl⟩) preEq rfl rfl hl.1 rfl (lv_room (Nat.le_of_ble_eq_true rfl)) dX5_blow_17 ⟨Nat.zero_le _, Nat.zero_le _⟩) ?_
        obtain ⟨nw_3, hc_4, hs⟩ := ob1_e hs
        refine kcv (wr := []) (ws' := [(q5, .inr (5, [.ref q5bk, .ref q5nw, .ref q5to, .int th, .ref q5ne, .int si, .ref q5st, .int sn, .ref q5pd, .int re, .int ac, .int fa, .int fw, .ref q5cn, .ref q5ig, .ref q5ik])), (q5bk, .inl (cI, 15, .inl bk)), (q5nw, .inl (cI, 15, .inl nw_3)), (q5to, .inl (cI, 12, .inl to)), (q5ne, .inl (cI, 8, .inl ne)), (q5st, .inl (cI, 16, .inl st)), (q5pd, .inl (cI, 60, .inl pd)), (q5cn, .inl (cI, 3, .inl cn)), (q5ig, .inl (cI, 120, .inl ig)), (q5ik, .inl (cZ, 2, .inl ik))]) (va_runV (As := [.int v2, .int (m_X5_shakes v1 (to (Int32.toNatClampNeg v2)))]) (rest := []) ⟨hx, hb, hml, hown, hts⟩ (k_X5_less l dC dI cI cZ cS q5 q5bk q5nw q5to q5ne q5st q5pd q5cn q5ig q5ik H.size th si sn re ac fa fw bk nw to ne st pd cn ig ik v2 (m_X5_shakes v1 (to (Int32.toNatClampNeg v2))) nw_3 hc_4) (cwV 2 hts (kGood (kgV mG_358 mG_359 mG_360 mG_332 mG_351)) rfl rfl rfl ⟨rfl, hd_X5_less⟩ ⟨Nat.le_of_ble_eq_true rfl, Nat.le_of_ble_eq_true rfl⟩) (kpV hK hN (hP.sub (ws' := [(q5, .inr (5, [.ref q5bk, .ref q5nw, .ref q5to, .int th, .ref q5ne, .int si, .ref q5st, .int sn, .ref q5pd, .int re, .int ac, .int fa, .int fw, .ref q5cn, .ref q5ig, .ref q5ik])), (q5bk, .inl (cI, 15, .inl bk)), (q5nw, .inl (cI, 15, .inl nw)), (q5to, .inl (cI, 12, .inl to)), (q5ne, .inl (cI, 8, .inl ne)), (q5st, .inl (cI, 16, .inl st)), (q5pd, .inl (cI, 60, .inl pd)), (q5cn, .inl (cI, 3, .inl cn)), (q5ig, .inl (cI, 120, .inl ig)), (q5ik, .inl (cZ, 2, .inl ik))]) [0, 1, 2, 3, 4, 5, 6, 7, 8, 9] rfl) (hD.sub (ws' := [(q5, .inr (5, [.ref q5bk, .ref q5nw, .ref q5to, .int th, .ref q5ne, .int si, .ref q5st, .int sn, .ref q5pd, .int re, .int ac, .int fa, .int fw, .ref q5cn, .ref q5ig, .ref q5ik])), (q5bk, .inl (cI, 15, .inl bk)), (q5nw, .inl (cI, 15, .inl nw)), (q5to, .inl (cI, 12, .inl to)), (q5ne, .inl (cI, 8, .inl ne)), (q5st, .inl (cI, 16, .inl st)), (q5pd, .inl (cI, 60, .inl pd)), (q5cn, .inl (cI, 3, .inl cn)), (q5ig, .inl (cI, 120, .inl ig)), (q5ik, .inl (cZ, 2, .inl ik))]) [0, 1, 2, 3, 4, 5, 6, 7, 8, 9] rfl rfl) rfl rfl rfl) rfl rfl hl.1 rfl (lv_room (Nat.le_of_ble_eq_true rfl)) dX5_blow_20 ⟨Nat.zero_le _, Nat.zero_le _⟩) hP hD hS hA [0, 1, 2, 3, 4, 5, 6, 7, 8, 9] [] [0, 1, 2, 3, 4, 5, 6, 7, 8, 9] rfl rfl rfl (by decide) rfl rfl (fun H locs hP hD hS => ?_)
        refine lv_iinc (v := (v2 + 1)) (lv' := [(2, .int (v2 + 1)), (0, .ref q5), (1, .int v1)]) hx hb dX5_blow_23 hl (k := 2) rfl rfl (by decide) rfl (fun ls hl => ?_)
        refine lv_goto (tgt := 2) hx hb dX5_blow_26 (by decide) ?_
        exact ih_2 (v2 + 1) nw_3 _ _ _ hP hD hS (lv_sub hl [1, 2, 0] rfl) hs
  exact hL_2 fu (0 : Int32) nw _ _ _ hP hD hS (lv_sub hl [1, 2, 0] rfl) hs
abbrev rm_X5_cry : Room := { frames := 2, cells := 0, slots := 0, locals := 44 }
theorem hd_X5_cry : yX5_cry.cls ≠ "java/lang/invoke/MethodHandle" ∧ yX5_cry.cls ≠ "java/lang/invoke/VarHandle" ∧ (parseMethodDescriptor yX5_cry.desc).map (fun d => d.parameters.length) = some 0 := by decide +kernel
set_option maxHeartbeats 4000000 in
set_option maxRecDepth 100000 in
theorem k_X5_cry (l : Launch) (dC : Nat → ClassId) (dI : Nat → Nat → Nat) (cI cZ cS : ClassId) (q5 q5bk q5nw q5to q5ne q5st q5pd q5cn q5ig q5ik : Nat) (sz : Nat) (th : Int32) (si : Int32) (sn : Int32) (re : Int32) (ac : Int32) (fa : Int32) (fw : Int32) (bk : Ar) (nw : Ar) (to : Ar) (ne : Ar) (st : Ar) (pd : Ar) (cn : Ar) (ig : Ar) (ik : Ar)  (nw_o : Ar) (hs : m_X5_cry th nw = some nw_o) : Met l yX5_cry (.code yX5_cry cX5_cry 2 none :: kG) rm_X5_cry (va_Pc [.ref q5] (kW (dC, dI) cI cZ cS [(q5, .inr (5, [.ref q5bk, .ref q5nw, .ref q5to, .int th, .ref q5ne, .int si, .ref q5st, .int sn, .ref q5pd, .int re, .int ac, .int fa, .int fw, .ref q5cn, .ref q5ig, .ref q5ik])), (q5bk, .inl (cI, 15, .inl bk)), (q5nw, .inl (cI, 15, .inl nw)), (q5to, .inl (cI, 12, .inl to)), (q5ne, .inl (cI, 8, .inl ne)), (q5st, .inl (cI, 16, .inl st)), (q5pd, .inl (cI, 60, .inl pd)), (q5cn, .inl (cI, 3, .inl cn)), (q5ig, .inl (cI, 120, .inl ig)), (q5ik, .inl (cZ, 2, .inl ik))] sz)) (kQv (dC, dI) [(q5, .inr (5, [.ref q5bk, .ref q5nw, .ref q5to, .int th, .ref q5ne, .int si, .ref q5st, .int sn, .ref q5pd, .int re, .int ac, .int fa, .int fw, .ref q5cn, .ref q5ig, .ref q5ik])), (q5bk, .inl (cI, 15, .inl bk)), (q5nw, .inl (cI, 15, .inl nw)), (q5to, .inl (cI, 12, .inl to)), (q5ne, .inl (cI, 8, .inl ne)), (q5st, .inl (cI, 16, .inl st)), (q5pd, .inl (cI, 60, .inl pd)), (q5cn, .inl (cI, 3, .inl cn)), (q5ig, .inl (cI, 120, .inl ig)), (q5ik, .inl (cZ, 2, .inl ik))] [(q5, .inr (5, [.ref q5bk, .ref q5nw, .ref q5to, .int th, .ref q5ne, .int si, .ref q5st, .int sn, .ref q5pd, .int re, .int ac, .int fa, .int fw, .ref q5cn, .ref q5ig, .ref q5ik])), (q5bk, .inl (cI, 15, .inl bk)), (q5nw, .inl (cI, 15, .inl nw_o)), (q5to, .inl (cI, 12, .inl to)), (q5ne, .inl (cI, 8, .inl ne)), (q5st, .inl (cI, 16, .inl st)), (q5pd, .inl (cI, 60, .inl pd)), (q5cn, .inl (cI, 3, .inl cn)), (q5ig, .inl (cI, 120, .inl ig)), (q5ik, .inl (cZ, 2, .inl ik))] sz) 0 0 (va_A [(q5, .inr (5, [.ref q5bk, .ref q5nw, .ref q5to, .int th, .ref q5ne, .int si, .ref q5st, .int sn, .ref q5pd, .int re, .int ac, .int fa, .int fw, .ref q5cn, .ref q5ig, .ref q5ik])), (q5bk, .inl (cI, 15, .inl bk)), (q5nw, .inl (cI, 15, .inl nw)), (q5to, .inl (cI, 12, .inl to)), (q5ne, .inl (cI, 8, .inl ne)), (q5st, .inl (cI, 16, .inl st)), (q5pd, .inl (cI, 60, .inl pd)), (q5cn, .inl (cI, 3, .inl cn)), (q5ig, .inl (cI, 120, .inl ig)), (q5ik, .inl (cZ, 2, .inl ik))] sz) := by
  refine kMv (own := RX5) (by decide) rfl ?_ (Nat.le_of_ble_eq_true rfl)
  intro p e s m args below meth c Q A CF hK hN hA hP hD hret ls hl
  have hS : va_S A s.heap s.heap [] := va_S.rf
  obtain ⟨hx, hb, hml, hown, hts⟩ := id CF
  have hl : lv_has ls 2 [(0, .ref q5)] := hl
  unfold m_X5_cry at hs
  refine lv_iconst (v := 0) hx hb dX5_cry_0 (by decide) ?_
  refine lv_istore_n (lv' := [(1, .int (0 : Int32)), (0, .ref q5)]) hx hb dX5_cry_1 rfl hl (by decide) rfl (fun ls hl => ?_)
  have hL_2 : ∀ (n : Nat) (v1 : Int32) (nw : Ar) (H : Heap) (locs : List Loc) (ls : Array Slot), va_P (dC, dI) vwCl [(q5, .inr (5, [.ref q5bk, .ref q5nw, .ref q5to, .int th, .ref q5ne, .int si, .ref q5st, .int sn, .ref q5pd, .int re, .int ac, .int fa, .int fw, .ref q5cn, .ref q5ig, .ref q5ik])), (q5bk, .inl (cI, 15, .inl bk)), (q5nw, .inl (cI, 15, .inl nw)), (q5to, .inl (cI, 12, .inl to)), (q5ne, .inl (cI, 8, .inl ne)), (q5st, .inl (cI, 16, .inl st)), (q5pd, .inl (cI, 60, .inl pd)), (q5cn, .inl (cI, 3, .inl cn)), (q5ig, .inl (cI, 120, .inl ig)), (q5ik, .inl (cZ, 2, .inl ik))] H → va_D A [(q5, .inr (5, [.ref q5bk, .ref q5nw, .ref q5to, .int th, .ref q5ne, .int si, .ref q5st, .int sn, .ref q5pd, .int re, .int ac, .int fa, .int fw, .ref q5cn, .ref q5ig, .ref q5ik])), (q5bk, .inl (cI, 15, .inl bk)), (q5nw, .inl (cI, 15, .inl nw)), (q5to, .inl (cI, 12, .inl to)), (q5ne, .inl (cI, 8, .inl ne)), (q5st, .inl (cI, 16, .inl st)), (q5pd, .inl (cI, 60, .inl pd)), (q5cn, .inl (cI, 3, .inl cn)), (q5ig, .inl (cI, 120, .inl ig)), (q5ik, .inl (cZ, 2, .inl ik))] → va_S A s.heap H locs → lv_has ls 2 [(0, .ref q5), (1, .int v1)] → L_X5_cry_2 th n v1 nw = some nw_o → W p l e rm_X5_cry s m args below meth c H locs 0 0 Q (F0 m 2 ls []) := by
    intro n
    induction n with
    | zero =>
      intro v1 nw H locs ls hP hD hS hl hs
      replace hs : (none : Option (Ar)) = some nw_o := hs
      cases hs
    | succ n_2 ih_2 =>
      intro v1 nw H locs ls hP hD hS hl hs
      replace hs : b_X5_cry_2  (L_X5_cry_2 th n_2) th v1 nw = some nw_o := hs
      unfold b_X5_cry_2 at hs
      refine lv_iload_n hx hb dX5_cry_2 rfl (lv_at hl 1 rfl) ?_
      refine lv_bipush (v := 12) hx hb dX5_cry_3 (by decide) ?_
      refine lv_icmp_ge (tgt := 26) hx hb dX5_cry_5 (by decide) (fun c_1 => ?_) (fun c_1 => ?_)
      · replace hs := if_p c_1 hs
        refine lv_aload_n hx hb dX5_cry_26 rfl (lv_at hl 0 rfl) ?_
        refine va_get (D := (dC, dI)) (ci := 5) (v := .ref q5nw) (C := RX5) (T := TX5) (N := 16) hx hb hts (fun w h => kg1 (iG_5 w h)) hown hK hP 0 rfl rfl 1 (by decide) (hts _ (kg1 mG_317)) (fun _ h9 => h9) rfl dX5_cry_27 ?_
        refine lv_bipush (v := 12) hx hb dX5_cry_30 (by decide) ?_
        refine lv_iconst (v := 0) hx hb dX5_cry_32 (by decide) ?_
        refine kast hx hb hK hP hD hS 2 0 rfl rfl (j := 12) rfl (inb_e (i := (12 : Int32)) (n := 15) rfl) dX5_cry_33 (fun H locs hP hD hS => ?_)
        have hP : va_P (dC, dI) vwCl [(q5, .inr (5, [.ref q5bk, .ref q5nw, .ref q5to, .int th, .ref q5ne, .int si, .ref q5st, .int sn, .ref q5pd, .int re, .int ac, .int fa, .int fw, .ref q5cn, .ref q5ig, .ref q5ik])), (q5bk, .inl (cI, 15, .inl bk)), (q5nw, .inl (cI, 15, .inl (upd nw 12 (0 : Int32)))), (q5to, .inl (cI, 12, .inl to)), (q5ne, .inl (cI, 8, .inl ne)), (q5st, .inl (cI, 16, .inl st)), (q5pd, .inl (cI, 60, .inl pd)), (q5cn, .inl (cI, 3, .inl cn)), (q5ig, .inl (cI, 120, .inl ig)), (q5ik, .inl (cZ, 2, .inl ik))] H := hP
        have hD : va_D A [(q5, .inr (5, [.ref q5bk, .ref q5nw, .ref q5to, .int th, .ref q5ne, .int si, .ref q5st, .int sn, .ref q5pd, .int re, .int ac, .int fa, .int fw, .ref q5cn, .ref q5ig, .ref q5ik])), (q5bk, .inl (cI, 15, .inl bk)), (q5nw, .inl (cI, 15, .inl (upd nw 12 (0 : Int32)))), (q5to, .inl (cI, 12, .inl to)), (q5ne, .inl (cI, 8, .inl ne)), (q5st, .inl (cI, 16, .inl st)), (q5pd, .inl (cI, 60, .inl pd)), (q5cn, .inl (cI, 3, .inl cn)), (q5ig, .inl (cI, 120, .inl ig)), (q5ik, .inl (cZ, 2, .inl ik))] := hD
        cases hs
        exact hret _ _ _ _ hP hD hS dX5_cry_34
      · replace hs := if_n c_1 hs
        refine lv_aload_n hx hb dX5_cry_8 rfl (lv_at hl 0 rfl) ?_
        refine lv_iload_n hx hb dX5_cry_9 rfl (lv_at hl 1 rfl) ?_
        refine lv_aload_n hx hb dX5_cry_10 rfl (lv_at hl 0 rfl) ?_
        refine va_get (D := (dC, dI)) (ci := 5) (v := .ref q5nw) (C := RX5) (T := TX5) (N := 16) hx hb hts (fun w h => kg1 (iG_5 w h)) hown hK hP 0 rfl rfl 1 (by decide) (hts _ (kg1 mG_317)) (fun _ h9 => h9) rfl dX5_cry_11 ?_
        refine lv_bipush (v := 12) hx hb dX5_cry_14 (by decide) ?_
        refine kald hx hb hK hP 2 0 rfl rfl (j := 12) rfl (inb_e (i := (12 : Int32)) (n := 15) rfl) dX5_cry_16 ?_
        obtain ⟨nw_2, hc_3, hs⟩ := ob1_e hs
        refine kcv (wr := []) (ws' := [(q5, .inr (5, [.ref q5bk, .ref q5nw, .ref q5to, .int th, .ref q5ne, .int si, .ref q5st, .int sn, .ref q5pd, .int re, .int ac, .int fa, .int fw, .ref q5cn, .ref q5ig, .ref q5ik])), (q5bk, .inl (cI, 15, .inl bk)), (q5nw, .inl (cI, 15, .inl nw_2)), (q5to, .inl (cI, 12, .inl to)), (q5ne, .inl (cI, 8, .inl ne)), (q5st, .inl (cI, 16, .inl st)), (q5pd, .inl (cI, 60, .inl pd)), (q5cn, .inl (cI, 3, .inl cn)), (q5ig, .inl (cI, 120, .inl ig)), (q5ik, .inl (cZ, 2, .inl ik))]) (va_runV (As := [.int v1, .int (nw 12)]) (rest := []) ⟨hx, hb, hml, hown, hts⟩ (k_X5_less l dC dI cI cZ cS q5 q5bk q5nw q5to q5ne q5st q5pd q5cn q5ig q5ik H.size th si sn re ac fa fw bk nw to ne st pd cn ig ik v1 (nw 12) nw_2 hc_3) (cwV 2 hts (kGood (kgV mG_358 mG_359 mG_360 mG_332 mG_351)) rfl rfl rfl ⟨rfl, hd_X5_less⟩ ⟨Nat.le_of_ble_eq_true rfl, Nat.le_of_ble_eq_true rfl⟩) (kpV hK hN (hP.sub (ws' := [(q5, .inr (5, [.ref q5bk, .ref q5nw, .ref q5to, .int th, .ref q5ne, .int si, .ref q5st, .int sn, .ref q5pd, .int re, .int ac, .int fa, .int fw, .ref q5cn, .ref q5ig, .ref q5ik])), (q5bk, .inl (cI, 15, .inl bk)), (q5nw, .inl (cI, 15, .inl nw)), (q5to, .inl (cI, 12, .inl to)), (q5ne, .inl (cI, 8, .inl ne)), (q5st, .inl (cI, 16, .inl st)), (q5pd, .inl (cI, 60, .inl pd)), (q5cn, .inl (cI, 3, .inl cn)), (q5ig, .inl (cI, 120, .inl ig)), (q5ik, .inl (cZ, 2, .inl ik))]) [0, 1, 2, 3, 4, 5, 6, 7, 8, 9] rfl) (hD.sub (ws' := [(q5, .inr (5, [.ref q5bk, .ref q5nw, .ref q5to, .int th, .ref q5ne, .int si, .ref q5st, .int sn, .ref q5pd, .int re, .int ac, .int fa, .int fw, .ref q5cn, .ref q5ig, .ref q5ik])), (q5bk, .inl (cI, 15, .inl bk)), (q5nw, .inl (cI, 15, .inl nw)), (q5to, .inl (cI, 12, .inl to)), (q5ne, .inl (cI, 8, .inl ne)), (q5st, .inl (cI, 16, .inl st)), (q5pd, .inl (cI, 60, .inl pd)), (q5cn, .inl (cI, 3, .inl cn)), (q5ig, .inl (cI, 120, .inl ig)), (q5ik, .inl (cZ, 2, .inl ik))]) [0, 1, 2, 3, 4, 5, 6, 7, 8, 9] rfl rfl) rfl rfl rfl) rfl rfl hl.1 rfl (lv_room (Nat.le_of_ble_eq_true rfl)) dX5_cry_17 ⟨Nat.zero_le _, Nat.zero_le _⟩) hP hD hS hA [0, 1, 2, 3, 4, 5, 6, 7, 8, 9] [] [0, 1, 2, 3, 4, 5, 6, 7, 8, 9] rfl rfl rfl (by decide) rfl rfl (fun H locs hP hD hS => ?_)
        refine lv_iinc (v := (v1 + 1)) (lv' := [(1, .int (v1 + 1)), (0, .ref q5)]) hx hb dX5_cry_20 hl (k := 1) rfl rfl (by decide) rfl (fun ls hl => ?_)
        refine lv_goto (tgt := 2) hx hb dX5_cry_23 (by decide) ?_
        exact ih_2 (v1 + 1) nw_2 _ _ _ hP hD hS (lv_sub hl [1, 0] rfl) hs
  exact hL_2 fu (0 : Int32) nw _ _ _ hP hD hS (lv_sub hl [1, 0] rfl) hs
abbrev rm_X5_mend : Room := { frames := 1, cells := 0, slots := 0, locals := 21 }
theorem hd_X5_mend : yX5_mend.cls ≠ "java/lang/invoke/MethodHandle" ∧ yX5_mend.cls ≠ "java/lang/invoke/VarHandle" ∧ (parseMethodDescriptor yX5_mend.desc).map (fun d => d.parameters.length) = some 0 := by decide +kernel
set_option maxHeartbeats 4000000 in
set_option maxRecDepth 100000 in
theorem k_X5_mend (l : Launch) (dC : Nat → ClassId) (dI : Nat → Nat → Nat) (cI cZ cS : ClassId) (q5 q5bk q5nw q5to q5ne q5st q5pd q5cn q5ig q5ik : Nat) (sz : Nat) (th : Int32) (si : Int32) (sn : Int32) (re : Int32) (ac : Int32) (fa : Int32) (fw : Int32) (bk : Ar) (nw : Ar) (to : Ar) (ne : Ar) (st : Ar) (pd : Ar) (cn : Ar) (ig : Ar) (ik : Ar)  (nw_o : Ar) (hs : m_X5_mend nw = some nw_o) : Met l yX5_mend (.code yX5_mend cX5_mend 6 none :: kG) rm_X5_mend (va_Pc [.ref q5] (kW (dC, dI) cI cZ cS [(q5, .inr (5, [.ref q5bk, .ref q5nw, .ref q5to, .int th, .ref q5ne, .int si, .ref q5st, .int sn, .ref q5pd, .int re, .int ac, .int fa, .int fw, .ref q5cn, .ref q5ig, .ref q5ik])), (q5bk, .inl (cI, 15, .inl bk)), (q5nw, .inl (cI, 15, .inl nw)), (q5to, .inl (cI, 12, .inl to)), (q5ne, .inl (cI, 8, .inl ne)), (q5st, .inl (cI, 16, .inl st)), (q5pd, .inl (cI, 60, .inl pd)), (q5cn, .inl (cI, 3, .inl cn)), (q5ig, .inl (cI, 120, .inl ig)), (q5ik, .inl (cZ, 2, .inl ik))] sz)) (kQv (dC, dI) [(q5, .inr (5, [.ref q5bk, .ref q5nw, .ref q5to, .int th, .ref q5ne, .int si, .ref q5st, .int sn, .ref q5pd, .int re, .int ac, .int fa, .int fw, .ref q5cn, .ref q5ig, .ref q5ik])), (q5bk, .inl (cI, 15, .inl bk)), (q5nw, .inl (cI, 15, .inl nw)), (q5to, .inl (cI, 12, .inl to)), (q5ne, .inl (cI, 8, .inl ne)), (q5st, .inl (cI, 16, .inl st)), (q5pd, .inl (cI, 60, .inl pd)), (q5cn, .inl (cI, 3, .inl cn)), (q5ig, .inl (cI, 120, .inl ig)), (q5ik, .inl (cZ, 2, .inl ik))] [(q5, .inr (5, [.ref q5bk, .ref q5nw, .ref q5to, .int th, .ref q5ne, .int si, .ref q5st, .int sn, .ref q5pd, .int re, .int ac, .int fa, .int fw, .ref q5cn, .ref q5ig, .ref q5ik])), (q5bk, .inl (cI, 15, .inl bk)), (q5nw, .inl (cI, 15, .inl nw_o)), (q5to, .inl (cI, 12, .inl to)), (q5ne, .inl (cI, 8, .inl ne)), (q5st, .inl (cI, 16, .inl st)), (q5pd, .inl (cI, 60, .inl pd)), (q5cn, .inl (cI, 3, .inl cn)), (q5ig, .inl (cI, 120, .inl ig)), (q5ik, .inl (cZ, 2, .inl ik))] sz) 0 0 (va_A [(q5, .inr (5, [.ref q5bk, .ref q5nw, .ref q5to, .int th, .ref q5ne, .int si, .ref q5st, .int sn, .ref q5pd, .int re, .int ac, .int fa, .int fw, .ref q5cn, .ref q5ig, .ref q5ik])), (q5bk, .inl (cI, 15, .inl bk)), (q5nw, .inl (cI, 15, .inl nw)), (q5to, .inl (cI, 12, .inl to)), (q5ne, .inl (cI, 8, .inl ne)), (q5st, .inl (cI, 16, .inl st)), (q5pd, .inl (cI, 60, .inl pd)), (q5cn, .inl (cI, 3, .inl cn)), (q5ig, .inl (cI, 120, .inl ig)), (q5ik, .inl (cZ, 2, .inl ik))] sz) := by
  refine kMv (own := RX5) (by decide) rfl ?_ (Nat.le_of_ble_eq_true rfl)
  intro p e s m args below meth c Q A CF hK hN hA hP hD hret ls hl
  have hS : va_S A s.heap s.heap [] := va_S.rf
  obtain ⟨hx, hb, hml, hown, hts⟩ := id CF
  have hl : lv_has ls 6 [(0, .ref q5)] := hl
  unfold m_X5_mend at hs
  refine lv_iconst (v := 0) hx hb dX5_mend_0 (by decide) ?_
  refine lv_istore_n (lv' := [(1, .int (0 : Int32)), (0, .ref q5)]) hx hb dX5_mend_1 rfl hl (by decide) rfl (fun ls hl => ?_)
  refine lv_iconst (v := 0) hx hb dX5_mend_2 (by decide) ?_
  refine lv_istore_n (lv' := [(2, .int (0 : Int32)), (1, .int (0 : Int32)), (0, .ref q5)]) hx hb dX5_mend_3 rfl hl (by decide) rfl (fun ls hl => ?_)
  have hL_4 : ∀ (n : Nat) (v1 : Int32) (v2 : Int32) (nw : Ar) (H : Heap) (locs : List Loc) (ls : Array Slot), va_P (dC, dI) vwCl [(q5, .inr (5, [.ref q5bk, .ref q5nw, .ref q5to, .int th, .ref q5ne, .int si, .ref q5st, .int sn, .ref q5pd, .int re, .int ac, .int fa, .int fw, .ref q5cn, .ref q5ig, .ref q5ik])), (q5bk, .inl (cI, 15, .inl bk)), (q5nw, .inl (cI, 15, .inl nw)), (q5to, .inl (cI, 12, .inl to)), (q5ne, .inl (cI, 8, .inl ne)), (q5st, .inl (cI, 16, .inl st)), (q5pd, .inl (cI, 60, .inl pd)), (q5cn, .inl (cI, 3, .inl cn)), (q5ig, .inl (cI, 120, .inl ig)), (q5ik, .inl (cZ, 2, .inl ik))] H → va_D A [(q5, .inr (5, [.ref q5bk, .ref q5nw, .ref q5to, .int th, .ref q5ne, .int si, .ref q5st, .int sn, .ref q5pd, .int re, .int ac, .int fa, .int fw, .ref q5cn, .ref q5ig, .ref q5ik])), (q5bk, .inl (cI, 15, .inl bk)), (q5nw, .inl (cI, 15, .inl nw)), (q5to, .inl (cI, 12, .inl to)), (q5ne, .inl (cI, 8, .inl ne)), (q5st, .inl (cI, 16, .inl st)), (q5pd, .inl (cI, 60, .inl pd)), (q5cn, .inl (cI, 3, .inl cn)), (q5ig, .inl (cI, 120, .inl ig)), (q5ik, .inl (cZ, 2, .inl ik))] → va_S A s.heap H locs → lv_has ls 6 [(0, .ref q5), (1, .int v1), (2, .int v2)] → L_X5_mend_4 nw n v1 v2 = some nw_o → W p l e rm_X5_mend s m args below meth c H locs 0 0 Q (F0 m 4 ls []) := by
    intro n
    induction n with
    | zero =>
      intro v1 v2 nw H locs ls hP hD hS hl hs
      replace hs : (none : Option (Ar)) = some nw_o := hs
      cases hs
    | succ n_4 ih_4 =>
      intro v1 v2 nw H locs ls hP hD hS hl hs
      replace hs : b_X5_mend_4  (L_X5_mend_4 nw n_4) nw v1 v2 = some nw_o := hs
      unfold b_X5_mend_4 at hs
      refine lv_iload_n hx hb dX5_mend_4 rfl (lv_at hl 2 rfl) ?_
      refine lv_aload_n hx hb dX5_mend_5 rfl (lv_at hl 0 rfl) ?_
      refine va_get (D := (dC, dI)) (ci := 5) (v := .ref q5nw) (C := RX5) (T := TX5) (N := 16) hx hb hts (fun w h => kg1 (iG_5 w h)) hown hK hP 0 rfl rfl 1 (by decide) (hts _ (kg1 mG_317)) (fun _ h9 => h9) rfl dX5_mend_6 ?_
      refine lv_bipush (v := 13) hx hb dX5_mend_9 (by decide) ?_
      refine kald hx hb hK hP 2 0 rfl rfl (j := 13) rfl (inb_e (i := (13 : Int32)) (n := 15) rfl) dX5_mend_11 ?_
      refine lv_icmp_ge (tgt := 124) hx hb dX5_mend_12 (by decide) (fun c_1 => ?_) (fun c_1 => ?_)
      · replace hs := if_p c_1 hs
        refine lv_iconst (v := 0) hx hb dX5_mend_124 (by decide) ?_
        refine lv_istore_n (lv' := [(2, .int (0 : Int32)), (0, .ref q5), (1, .int v1)]) hx hb dX5_mend_125 rfl hl (by decide) rfl (fun ls hl => ?_)
        have hL_126 : ∀ (n : Nat) (v1 : Int32) (v2 : Int32) (nw : Ar) (H : Heap) (locs : List Loc) (ls : Array Slot), va_P (dC, dI) vwCl [(q5, .inr (5, [.ref q5bk, .ref q5nw, .ref q5to, .int th, .ref q5ne, .int si, .ref q5st, .int sn, .ref q5pd, .int re, .int ac, .int fa, .int fw, .ref q5cn, .ref q5ig, .ref q5ik])), (q5bk, .inl (cI, 15, .inl bk)), (q5nw, .inl (cI, 15, .inl nw)), (q5to, .inl (cI, 12, .inl to)), (q5ne, .inl (cI, 8, .inl ne)), (q5st, .inl (cI, 16, .inl st)), (q5pd, .inl (cI, 60, .inl pd)), (q5cn, .inl (cI, 3, .inl cn)), (q5ig, .inl (cI, 120, .inl ig)), (q5ik, .inl (cZ, 2, .inl ik))] H → va_D A [(q5, .inr (5, [.ref q5bk, .ref q5nw, .ref q5to, .int th, .ref q5ne, .int si, .ref q5st, .int sn, .ref q5pd, .int re, .int ac, .int fa, .int fw, .ref q5cn, .ref q5ig, .ref q5ik])), (q5bk, .inl (cI, 15, .inl bk)), (q5nw, .inl (cI, 15, .inl nw)), (q5to, .inl (cI, 12, .inl to)), (q5ne, .inl (cI, 8, .inl ne)), (q5st, .inl (cI, 16, .inl st)), (q5pd, .inl (cI, 60, .inl pd)), (q5cn, .inl (cI, 3, .inl cn)), (q5ig, .inl (cI, 120, .inl ig)), (q5ik, .inl (cZ, 2, .inl ik))] → va_S A s.heap H locs → lv_has ls 6 [(0, .ref q5), (1, .int v1), (2, .int v2)] → L_X5_mend_126 v1 n v2 nw = some nw_o → W p l e rm_X5_mend s m args below meth c H locs 0 0 Q (F0 m 126 ls []) := by
          intro n
          induction n with
          | zero =>
            intro v1 v2 nw H locs ls hP hD hS hl hs
            replace hs : (none : Option (Ar)) = some nw_o := hs
            cases hs
          | succ n_126 ih_126 =>
            intro v1 v2 nw H locs ls hP hD hS hl hs
            replace hs : b_X5_mend_126  (L_X5_mend_126 v1 n_126) v1 v2 nw = some nw_o := hs
            unfold b_X5_mend_126 at hs
            refine lv_iload_n hx hb dX5_mend_126 rfl (lv_at hl 2 rfl) ?_
            refine lv_bipush (v := 12) hx hb dX5_mend_127 (by decide) ?_
            refine lv_icmp_ge (tgt := 160) hx hb dX5_mend_129 (by decide) (fun c_2 => ?_) (fun c_2 => ?_)
            · replace hs := if_p c_2 hs
              cases hs
              exact hret _ _ _ _ hP hD hS dX5_mend_160
            · replace hs := if_n c_2 hs
              refine lv_aload_n hx hb dX5_mend_132 rfl (lv_at hl 0 rfl) ?_
              refine va_get (D := (dC, dI)) (ci := 5) (v := .ref q5nw) (C := RX5) (T := TX5) (N := 16) hx hb hts (fun w h => kg1 (iG_5 w h)) hown hK hP 0 rfl rfl 1 (by decide) (hts _ (kg1 mG_317)) (fun _ h9 => h9) rfl dX5_mend_133 ?_
              refine lv_iload_n hx hb dX5_mend_136 rfl (lv_at hl 2 rfl) ?_
              refine lv_dup2_11 hx hb dX5_mend_137 rfl rfl ?_
              obtain ⟨hg_3, hs⟩ := gd_e hs
              refine kald hx hb hK hP 2 0 rfl rfl (j := (Int32.toNatClampNeg v2)) rfl (inb_e hg_3) dX5_mend_138 ?_
              refine lv_iload_n hx hb dX5_mend_139 rfl (lv_at hl 1 rfl) ?_
              refine lv_iload_n hx hb dX5_mend_140 rfl (lv_at hl 2 rfl) ?_
              refine kpi (va_runS (As := [.int v1, .int v2]) (rest := [.int (nw (Int32.toNatClampNeg v2)), .int v2, .ref q5nw]) ⟨hx, hb, hml, hown, hts⟩ (k_X5_has l v1 v2 _ rfl) (va_cwS 2 hts (kGood (kgS mG_352 mG_353 mG_332 mG_327)) rfl rfl rfl hd_X5_has ⟨Nat.le_of_ble_eq_true rfl, Nat.le_of_ble_eq_true rfl⟩) preEq rfl rfl hl.1 rfl (lv_room (Nat.le_of_ble_eq_true rfl)) dX5_mend_141 ⟨Nat.zero_le _, Nat.zero_le _⟩) ?_
              have hJ_152 : ∀ (v2 : Int32) (s152_0 : Int32) (s152_1 : Int32) (s152_2 : Int32) (nw : Ar) (H : Heap) (locs : List Loc) (ls : Array Slot), va_P (dC, dI) vwCl [(q5, .inr (5, [.ref q5bk, .ref q5nw, .ref q5to, .int th, .ref q5ne, .int si, .ref q5st, .int sn, .ref q5pd, .int re, .int ac, .int fa, .int fw, .ref q5cn, .ref q5ig, .ref q5ik])), (q5bk, .inl (cI, 15, .inl bk)), (q5nw, .inl (cI, 15, .inl nw)), (q5to, .inl (cI, 12, .inl to)), (q5ne, .inl (cI, 8, .inl ne)), (q5st, .inl (cI, 16, .inl st)), (q5pd, .inl (cI, 60, .inl pd)), (q5cn, .inl (cI, 3, .inl cn)), (q5ig, .inl (cI, 120, .inl ig)), (q5ik, .inl (cZ, 2, .inl ik))] H → va_D A [(q5, .inr (5, [.ref q5bk, .ref q5nw, .ref q5to, .int th, .ref q5ne, .int si, .ref q5st, .int sn, .ref q5pd, .int re, .int ac, .int fa, .int fw, .ref q5cn, .ref q5ig, .ref q5ik])), (q5bk, .inl (cI, 15, .inl bk)), (q5nw, .inl (cI, 15, .inl nw)), (q5to, .inl (cI, 12, .inl to)), (q5ne, .inl (cI, 8, .inl ne)), (q5st, .inl (cI, 16, .inl st)), (q5pd, .inl (cI, 60, .inl pd)), (q5cn, .inl (cI, 3, .inl cn)), (q5ig, .inl (cI, 120, .inl ig)), (q5ik, .inl (cZ, 2, .inl ik))] → va_S A s.heap H locs → lv_has ls 6 [(0, .ref q5), (1, .int v1), (2, .int v2)] → j_X5_mend_152 (L_X5_mend_126 v1 n_126) v2 s152_0 s152_1 s152_2 nw = some nw_o → W p l e rm_X5_mend s m args below meth c H locs 0 0 Q (F0 m 152 ls [.int s152_0, .int s152_1, .int s152_2, .ref q5nw]) := by
                intro v2 s152_0 s152_1 s152_2 nw H locs ls hP hD hS hl hs
                unfold j_X5_mend_152 at hs
                refine lv_iadd hx hb dX5_mend_152 ?_
                obtain ⟨hg_11, hs⟩ := gd_e hs
                refine kast hx hb hK hP hD hS 2 0 rfl rfl (j := (Int32.toNatClampNeg s152_2)) rfl (inb_e hg_11) dX5_mend_153 (fun H locs hP hD hS => ?_)
                have hP : va_P (dC, dI) vwCl [(q5, .inr (5, [.ref q5bk, .ref q5nw, .ref q5to, .int th, .ref q5ne, .int si, .ref q5st, .int sn, .ref q5pd, .int re, .int ac, .int fa, .int fw, .ref q5cn, .ref q5ig, .ref q5ik])), (q5bk, .inl (cI, 15, .inl bk)), (q5nw, .inl (cI, 15, .inl (upd nw (Int32.toNatClampNeg s152_2) (s152_1 + s152_0)))), (q5to, .inl (cI, 12, .inl to)), (q5ne, .inl (cI, 8, .inl ne)), (q5st, .inl (cI, 16, .inl st)), (q5pd, .inl (cI, 60, .inl pd)), (q5cn, .inl (cI, 3, .inl cn)), (q5ig, .inl (cI, 120, .inl ig)), (q5ik, .inl (cZ, 2, .inl ik))] H := hP
                have hD : va_D A [(q5, .inr (5, [.ref q5bk, .ref q5nw, .ref q5to, .int th, .ref q5ne, .int si, .ref q5st, .int sn, .ref q5pd, .int re, .int ac, .int fa, .int fw, .ref q5cn, .ref q5ig, .ref q5ik])), (q5bk, .inl (cI, 15, .inl bk)), (q5nw, .inl (cI, 15, .inl (upd nw (Int32.toNatClampNeg s152_2) (s152_1 + s152_0)))), (q5to, .inl (cI, 12, .inl to)), (q5ne, .inl (cI, 8, .inl ne)), (q5st, .inl (cI, 16, .inl st)), (q5pd, .inl (cI, 60, .inl pd)), (q5cn, .inl (cI, 3, .inl cn)), (q5ig, .inl (cI, 120, .inl ig)), (q5ik, .inl (cZ, 2, .inl ik))] := hD
                refine lv_iinc (v := (v2 + 1)) (lv' := [(2, .int (v2 + 1)), (0, .ref q5), (1, .int v1)]) hx hb dX5_mend_154 hl (k := 2) rfl rfl (by decide) rfl (fun ls hl => ?_)
                refine lv_goto (tgt := 126) hx hb dX5_mend_157 (by decide) ?_
                exact ih_126 v1 (v2 + 1) (upd nw (Int32.toNatClampNeg s152_2) (s152_1 + s152_0)) _ _ _ hP hD hS (lv_sub hl [1, 2, 0] rfl) hs
              refine lv_if_eq (tgt := 151) hx hb dX5_mend_144 (by decide) (fun c_4 => ?_) (fun c_4 => ?_)
              · replace hs := if_p c_4 hs
                refine lv_iconst (v := 0) hx hb dX5_mend_151 (by decide) ?_
                exact hJ_152 v2 (0 : Int32) (nw (Int32.toNatClampNeg v2)) v2 nw _ _ _ hP hD hS (lv_sub hl [0, 1, 2] rfl) hs
              · replace hs := if_n c_4 hs
                refine lv_iconst (v := 1) hx hb dX5_mend_147 (by decide) ?_
                refine lv_goto (tgt := 152) hx hb dX5_mend_148 (by decide) ?_
                exact hJ_152 v2 (1 : Int32) (nw (Int32.toNatClampNeg v2)) v2 nw _ _ _ hP hD hS (lv_sub hl [0, 1, 2] rfl) hs
        exact hL_126 fu v1 (0 : Int32) nw _ _ _ hP hD hS (lv_sub hl [1, 2, 0] rfl) hs
      · replace hs := if_n c_1 hs
        refine lv_bipush (v := -6) hx hb dX5_mend_15 (by decide) ?_
        refine lv_istore_n (lv' := [(3, .int (-6 : Int32)), (0, .ref q5), (1, .int v1), (2, .int v2)]) hx hb dX5_mend_17 rfl hl (by decide) rfl (fun ls hl => ?_)
        refine lv_iconst (v := 0) hx hb dX5_mend_18 (by decide) ?_
        refine lv_istore (lv' := [(4, .int (0 : Int32)), (3, .int (-6 : Int32)), (0, .ref q5), (1, .int v1), (2, .int v2)]) hx hb dX5_mend_19 hl (by decide) rfl (fun ls hl => ?_)
        have hL_21 : ∀ (n : Nat) (v1 : Int32) (v2 : Int32) (v3 : Int32) (v4 : Int32) (H : Heap) (locs : List Loc) (ls : Array Slot), va_P (dC, dI) vwCl [(q5, .inr (5, [.ref q5bk, .ref q5nw, .ref q5to, .int th, .ref q5ne, .int si, .ref q5st, .int sn, .ref q5pd, .int re, .int ac, .int fa, .int fw, .ref q5cn, .ref q5ig, .ref q5ik])), (q5bk, .inl (cI, 15, .inl bk)), (q5nw, .inl (cI, 15, .inl nw)), (q5to, .inl (cI, 12, .inl to)), (q5ne, .inl (cI, 8, .inl ne)), (q5st, .inl (cI, 16, .inl st)), (q5pd, .inl (cI, 60, .inl pd)), (q5cn, .inl (cI, 3, .inl cn)), (q5ig, .inl (cI, 120, .inl ig)), (q5ik, .inl (cZ, 2, .inl ik))] H → va_D A [(q5, .inr (5, [.ref q5bk, .ref q5nw, .ref q5to, .int th, .ref q5ne, .int si, .ref q5st, .int sn, .ref q5pd, .int re, .int ac, .int fa, .int fw, .ref q5cn, .ref q5ig, .ref q5ik])), (q5bk, .inl (cI, 15, .inl bk)), (q5nw, .inl (cI, 15, .inl nw)), (q5to, .inl (cI, 12, .inl to)), (q5ne, .inl (cI, 8, .inl ne)), (q5st, .inl (cI, 16, .inl st)), (q5pd, .inl (cI, 60, .inl pd)), (q5cn, .inl (cI, 3, .inl cn)), (q5ig, .inl (cI, 120, .inl ig)), (q5ik, .inl (cZ, 2, .inl ik))] → va_S A s.heap H locs → lv_has ls 6 [(0, .ref q5), (1, .int v1), (2, .int v2), (3, .int v3), (4, .int v4)] → L_X5_mend_21 (L_X5_mend_4 nw n_4) v1 v2 nw n v3 v4 = some nw_o → W p l e rm_X5_mend s m args below meth c H locs 0 0 Q (F0 m 21 ls []) := by
          intro n
          induction n with
          | zero =>
            intro v1 v2 v3 v4 H locs ls hP hD hS hl hs
            replace hs : (none : Option (Ar)) = some nw_o := hs
            cases hs
          | succ n_21 ih_21 =>
            intro v1 v2 v3 v4 H locs ls hP hD hS hl hs
            replace hs : b_X5_mend_21 (L_X5_mend_4 nw n_4) (L_X5_mend_21 (L_X5_mend_4 nw n_4) v1 v2 nw n_21) v1 v2 nw v3 v4 = some nw_o := hs
            unfold b_X5_mend_21 at hs
            refine lv_iload hx hb dX5_mend_21 (lv_at hl 4 rfl) ?_
            refine lv_bipush (v := 12) hx hb dX5_mend_23 (by decide) ?_
            refine lv_icmp_ge (tgt := 104) hx hb dX5_mend_25 (by decide) (fun c_5 => ?_) (fun c_5 => ?_)
            · replace hs := if_p c_5 hs
              refine lv_iload_n hx hb dX5_mend_104 rfl (lv_at hl 1 rfl) ?_
              refine lv_iload_n hx hb dX5_mend_105 rfl (lv_at hl 3 rfl) ?_
              refine lv_if_ge (tgt := 113) hx hb dX5_mend_106 (by decide) (fun c_6 => ?_) (fun c_6 => ?_)
              · replace hs := if_p c_6 hs
                refine lv_iconst (v := 1) hx hb dX5_mend_113 (by decide) ?_
                refine lv_iload_n hx hb dX5_mend_114 rfl (lv_at hl 3 rfl) ?_
                refine lv_ishl hx hb dX5_mend_115 ?_
                refine lv_ior hx hb dX5_mend_116 ?_
                refine lv_istore_n (lv' := [(1, .int (v1 ||| ((1 : Int32) <<< (v3 &&& 31)))), (0, .ref q5), (2, .int v2), (3, .int v3), (4, .int v4)]) hx hb dX5_mend_117 rfl hl (by decide) rfl (fun ls hl => ?_)
                refine lv_iinc (v := (v2 + 1)) (lv' := [(2, .int (v2 + 1)), (1, .int (v1 ||| ((1 : Int32) <<< (v3 &&& 31)))), (0, .ref q5), (3, .int v3), (4, .int v4)]) hx hb dX5_mend_118 hl (k := 2) rfl rfl (by decide) rfl (fun ls hl => ?_)
                refine lv_goto (tgt := 4) hx hb dX5_mend_121 (by decide) ?_
                exact ih_4 (v1 ||| ((1 : Int32) <<< (v3 &&& 31))) (v2 + 1) nw _ _ _ hP hD hS (lv_sub hl [2, 1, 0] rfl) hs
              · replace hs := if_n c_6 hs
                refine lv_iconst (v := 0) hx hb dX5_mend_109 (by decide) ?_
                refine lv_goto (tgt := 116) hx hb dX5_mend_110 (by decide) ?_
                refine lv_ior hx hb dX5_mend_116 ?_
                refine lv_istore_n (lv' := [(1, .int (v1 ||| (0 : Int32))), (0, .ref q5), (2, .int v2), (3, .int v3), (4, .int v4)]) hx hb dX5_mend_117 rfl hl (by decide) rfl (fun ls hl => ?_)
                refine lv_iinc (v := (v2 + 1)) (lv' := [(2, .int (v2 + 1)), (1, .int (v1 ||| (0 : Int32))), (0, .ref q5), (3, .int v3), (4, .int v4)]) hx hb dX5_mend_118 hl (k := 2) rfl rfl (by decide) rfl (fun ls hl => ?_)
                refine lv_goto (tgt := 4) hx hb dX5_mend_121 (by decide) ?_
                exact ih_4 (v1 ||| (0 : Int32)) (v2 + 1) nw _ _ _ hP hD hS (lv_sub hl [2, 1, 0] rfl) hs
            · replace hs := if_n c_5 hs
              refine lv_iload_n hx hb dX5_mend_28 rfl (lv_at hl 1 rfl) ?_
              refine lv_iload hx hb dX5_mend_29 (lv_at hl 4 rfl) ?_
              refine kpi (va_runS (As := [.int v1, .int v4]) (rest := []) ⟨hx, hb, hml, hown, hts⟩ (k_X5_has l v1 v4 _ rfl) (va_cwS 2 hts (kGood (kgS mG_352 mG_353 mG_332 mG_327)) rfl rfl rfl hd_X5_has ⟨Nat.le_of_ble_eq_true rfl, Nat.le_of_ble_eq_true rfl⟩) preEq rfl rfl hl.1 rfl (lv_room (Nat.le_of_ble_eq_true rfl)) dX5_mend_31 ⟨Nat.zero_le _, Nat.zero_le _⟩) ?_
              have hJ_64 : ∀ (v3 : Int32) (v4 : Int32) (s64_0 : Int32) (H : Heap) (locs : List Loc) (ls : Array Slot), va_P (dC, dI) vwCl [(q5, .inr (5, [.ref q5bk, .ref q5nw, .ref q5to, .int th, .ref q5ne, .int si, .ref q5st, .int sn, .ref q5pd, .int re, .int ac, .int fa, .int fw, .ref q5cn, .ref q5ig, .ref q5ik])), (q5bk, .inl (cI, 15, .inl bk)), (q5nw, .inl (cI, 15, .inl nw)), (q5to, .inl (cI, 12, .inl to)), (q5ne, .inl (cI, 8, .inl ne)), (q5st, .inl (cI, 16, .inl st)), (q5pd, .inl (cI, 60, .inl pd)), (q5cn, .inl (cI, 3, .inl cn)), (q5ig, .inl (cI, 120, .inl ig)), (q5ik, .inl (cZ, 2, .inl ik))] H → va_D A [(q5, .inr (5, [.ref q5bk, .ref q5nw, .ref q5to, .int th, .ref q5ne, .int si, .ref q5st, .int sn, .ref q5pd, .int re, .int ac, .int fa, .int fw, .ref q5cn, .ref q5ig, .ref q5ik])), (q5bk, .inl (cI, 15, .inl bk)), (q5nw, .inl (cI, 15, .inl nw)), (q5to, .inl (cI, 12, .inl to)), (q5ne, .inl (cI, 8, .inl ne)), (q5st, .inl (cI, 16, .inl st)), (q5pd, .inl (cI, 60, .inl pd)), (q5cn, .inl (cI, 3, .inl cn)), (q5ig, .inl (cI, 120, .inl ig)), (q5ik, .inl (cZ, 2, .inl ik))] → va_S A s.heap H locs → lv_has ls 6 [(0, .ref q5), (1, .int v1), (2, .int v2), (3, .int v3), (4, .int v4)] → j_X5_mend_64 (L_X5_mend_4 nw n_4) (L_X5_mend_21 (L_X5_mend_4 nw n_4) v1 v2 nw n_21) v3 v4 s64_0 nw = some nw_o → W p l e rm_X5_mend s m args below meth c H locs 0 0 Q (F0 m 64 ls [.int s64_0]) := by
                intro v3 v4 s64_0 H locs ls hP hD hS hl hs
                unfold j_X5_mend_64 at hs
                refine lv_istore (lv' := [(5, .int s64_0), (0, .ref q5), (1, .int v1), (2, .int v2), (3, .int v3), (4, .int v4)]) hx hb dX5_mend_64 hl (by decide) rfl (fun ls hl => ?_)
                refine lv_iload hx hb dX5_mend_66 (lv_at hl 0 rfl) ?_
                refine lv_if_eq (tgt := 96) hx hb dX5_mend_68 (by decide) (fun c_12 => ?_) (fun c_12 => ?_)
                · replace hs := if_p c_12 hs
                  refine lv_iload_n hx hb dX5_mend_96 rfl (lv_at hl 4 rfl) ?_
                  refine lv_istore_n (lv' := [(3, .int v3), (5, .int s64_0), (0, .ref q5), (1, .int v1), (2, .int v2), (4, .int v4)]) hx hb dX5_mend_97 rfl hl (by decide) rfl (fun ls hl => ?_)
                  refine lv_iinc (v := (v4 + 1)) (lv' := [(4, .int (v4 + 1)), (3, .int v3), (5, .int s64_0), (0, .ref q5), (1, .int v1), (2, .int v2)]) hx hb dX5_mend_98 hl (k := 5) rfl rfl (by decide) rfl (fun ls hl => ?_)
                  refine lv_goto (tgt := 21) hx hb dX5_mend_101 (by decide) ?_
                  exact ih_21 v1 v2 v3 (v4 + 1) _ _ _ hP hD hS (lv_sub hl [3, 4, 5, 1, 0] rfl) hs
                · replace hs := if_n c_12 hs
                  refine lv_iload_n hx hb dX5_mend_71 rfl (lv_at hl 4 rfl) ?_
                  refine lv_if_lt (tgt := 91) hx hb dX5_mend_72 (by decide) (fun c_13 => ?_) (fun c_13 => ?_)
                  · replace hs := if_p c_13 hs
                    refine lv_iload hx hb dX5_mend_91 (lv_at hl 5 rfl) ?_
                    refine lv_goto (tgt := 97) hx hb dX5_mend_93 (by decide) ?_
                    refine lv_istore_n (lv' := [(3, .int v4), (5, .int s64_0), (0, .ref q5), (1, .int v1), (2, .int v2), (4, .int v4)]) hx hb dX5_mend_97 rfl hl (by decide) rfl (fun ls hl => ?_)
                    refine lv_iinc (v := (v4 + 1)) (lv' := [(4, .int (v4 + 1)), (3, .int v4), (5, .int s64_0), (0, .ref q5), (1, .int v1), (2, .int v2)]) hx hb dX5_mend_98 hl (k := 5) rfl rfl (by decide) rfl (fun ls hl => ?_)
                    refine lv_goto (tgt := 21) hx hb dX5_mend_101 (by decide) ?_
                    exact ih_21 v1 v2 v4 (v4 + 1) _ _ _ hP hD hS (lv_sub hl [3, 4, 5, 1, 0] rfl) hs
                  · replace hs := if_n c_13 hs
                    refine lv_aload_n hx hb dX5_mend_75 rfl (lv_at hl 1 rfl) ?_
                    refine va_get (D := (dC, dI)) (ci := 5) (v := .ref q5nw) (C := RX5) (T := TX5) (N := 16) hx hb hts (fun w h => kg1 (iG_5 w h)) hown hK hP 0 rfl rfl 1 (by decide) (hts _ (kg1 mG_317)) (fun _ h9 => h9) rfl dX5_mend_76 ?_
                    refine lv_iload hx hb dX5_mend_79 (lv_at hl 5 rfl) ?_
                    obtain ⟨hg_14, hs⟩ := gd_e hs
                    refine kald hx hb hK hP 2 0 rfl rfl (j := (Int32.toNatClampNeg v4)) rfl (inb_e hg_14) dX5_mend_81 ?_
                    refine lv_aload_n hx hb dX5_mend_82 rfl (lv_at hl 1 rfl) ?_
                    refine va_get (D := (dC, dI)) (ci := 5) (v := .ref q5nw) (C := RX5) (T := TX5) (N := 16) hx hb hts (fun w h => kg1 (iG_5 w h)) hown hK hP 0 rfl rfl 1 (by decide) (hts _ (kg1 mG_317)) (fun _ h9 => h9) rfl dX5_mend_83 ?_
                    refine lv_iload_n hx hb dX5_mend_86 rfl (lv_at hl 4 rfl) ?_
                    obtain ⟨hg_15, hs⟩ := gd_e hs
                    refine kald hx hb hK hP 2 0 rfl rfl (j := (Int32.toNatClampNeg v3)) rfl (inb_e hg_15) dX5_mend_87 ?_
                    refine lv_icmp_ge (tgt := 96) hx hb dX5_mend_88 (by decide) (fun c_16 => ?_) (fun c_16 => ?_)
                    · replace hs := if_p c_16 hs
                      refine lv_iload_n hx hb dX5_mend_96 rfl (lv_at hl 4 rfl) ?_
                      refine lv_istore_n (lv' := [(3, .int v3), (5, .int s64_0), (0, .ref q5), (1, .int v1), (2, .int v2), (4, .int v4)]) hx hb dX5_mend_97 rfl hl (by decide) rfl (fun ls hl => ?_)
                      refine lv_iinc (v := (v4 + 1)) (lv' := [(4, .int (v4 + 1)), (3, .int v3), (5, .int s64_0), (0, .ref q5), (1, .int v1), (2, .int v2)]) hx hb dX5_mend_98 hl (k := 5) rfl rfl (by decide) rfl (fun ls hl => ?_)
                      refine lv_goto (tgt := 21) hx hb dX5_mend_101 (by decide) ?_
                      exact ih_21 v1 v2 v3 (v4 + 1) _ _ _ hP hD hS (lv_sub hl [3, 4, 5, 1, 0] rfl) hs
                    · replace hs := if_n c_16 hs
                      refine lv_iload hx hb dX5_mend_91 (lv_at hl 5 rfl) ?_
                      refine lv_goto (tgt := 97) hx hb dX5_mend_93 (by decide) ?_
                      refine lv_istore_n (lv' := [(3, .int v4), (5, .int s64_0), (0, .ref q5), (1, .int v1), (2, .int v2), (4, .int v4)]) hx hb dX5_mend_97 rfl hl (by decide) rfl (fun ls hl => ?_)
                      refine lv_iinc (v := (v4 + 1)) (lv' := [(4, .int (v4 + 1)), (3, .int v4), (5, .int s64_0), (0, .ref q5), (1, .int v1), (2, .int v2)]) hx hb dX5_mend_98 hl (k := 5) rfl rfl (by decide) rfl (fun ls hl => ?_)
                      refine lv_goto (tgt := 21) hx hb dX5_mend_101 (by decide) ?_
                      exact ih_21 v1 v2 v4 (v4 + 1) _ _ _ hP hD hS (lv_sub hl [3, 4, 5, 1, 0] rfl) hs
              refine lv_if_ne (tgt := 63) hx hb dX5_mend_34 (by decide) (fun c_7 => ?_) (fun c_7 => ?_)
              · replace hs := if_n c_7 hs
                refine lv_iconst (v := 0) hx hb dX5_mend_63 (by decide) ?_
                exact hJ_64 v3 v4 (0 : Int32) _ _ _ hP hD hS (lv_sub hl [0, 1, 2, 3, 4] rfl) hs
              · replace hs := if_p c_7 hs
                refine lv_aload_n hx hb dX5_mend_37 rfl (lv_at hl 0 rfl) ?_
                refine va_get (D := (dC, dI)) (ci := 5) (v := .ref q5nw) (C := RX5) (T := TX5) (N := 16) hx hb hts (fun w h => kg1 (iG_5 w h)) hown hK hP 0 rfl rfl 1 (by decide) (hts _ (kg1 mG_317)) (fun _ h9 => h9) rfl dX5_mend_38 ?_
                refine lv_iload hx hb dX5_mend_41 (lv_at hl 4 rfl) ?_
                obtain ⟨hg_8, hs⟩ := gd_e hs
                refine kald hx hb hK hP 2 0 rfl rfl (j := (Int32.toNatClampNeg v4)) rfl (inb_e hg_8) dX5_mend_43 ?_
                refine lv_if_le (tgt := 63) hx hb dX5_mend_44 (by decide) (fun c_9 => ?_) (fun c_9 => ?_)
                · replace hs := if_p c_9 hs
                  refine lv_iconst (v := 0) hx hb dX5_mend_63 (by decide) ?_
                  exact hJ_64 v3 v4 (0 : Int32) _ _ _ hP hD hS (lv_sub hl [0, 1, 2, 3, 4] rfl) hs
                · replace hs := if_n c_9 hs
                  refine lv_aload_n hx hb dX5_mend_47 rfl (lv_at hl 0 rfl) ?_
                  refine va_get (D := (dC, dI)) (ci := 5) (v := .ref q5nw) (C := RX5) (T := TX5) (N := 16) hx hb hts (fun w h => kg1 (iG_5 w h)) hown hK hP 0 rfl rfl 1 (by decide) (hts _ (kg1 mG_317)) (fun _ h9 => h9) rfl dX5_mend_48 ?_
                  refine lv_iload hx hb dX5_mend_51 (lv_at hl 4 rfl) ?_
                  refine kald hx hb hK hP 2 0 rfl rfl (j := (Int32.toNatClampNeg v4)) rfl (inb_e hg_8) dX5_mend_53 ?_
                  refine lv_bipush (v := 99) hx hb dX5_mend_54 (by decide) ?_
                  refine lv_icmp_ge (tgt := 63) hx hb dX5_mend_56 (by decide) (fun c_10 => ?_) (fun c_10 => ?_)
                  · replace hs := if_p c_10 hs
                    refine lv_iconst (v := 0) hx hb dX5_mend_63 (by decide) ?_
                    exact hJ_64 v3 v4 (0 : Int32) _ _ _ hP hD hS (lv_sub hl [0, 1, 2, 3, 4] rfl) hs
                  · replace hs := if_n c_10 hs
                    refine lv_iconst (v := 1) hx hb dX5_mend_59 (by decide) ?_
                    refine lv_goto (tgt := 64) hx hb dX5_mend_60 (by decide) ?_
                    exact hJ_64 v3 v4 (1 : Int32) _ _ _ hP hD hS (lv_sub hl [0, 1, 2, 3, 4] rfl) hs
        exact hL_21 fu v1 v2 (-6 : Int32) (0 : Int32) _ _ _ hP hD hS (lv_sub hl [2, 3, 4, 1, 0] rfl) hs
  exact hL_4 fu (0 : Int32) (0 : Int32) nw _ _ _ hP hD hS (lv_sub hl [2, 1, 0] rfl) hs
abbrev rm_X5_whyNot : Room := { frames := 0, cells := 0, slots := 0, locals := 0 }
theorem hd_X5_whyNot : yX5_whyNot.cls ≠ "java/lang/invoke/MethodHandle" ∧ yX5_whyNot.cls ≠ "java/lang/invoke/VarHandle" ∧ (parseMethodDescriptor yX5_whyNot.desc).map (fun d => d.parameters.length) = some 1 := by decide +kernel
set_option maxHeartbeats 4000000 in
set_option maxRecDepth 100000 in
theorem k_X5_whyNot (l : Launch) (dC : Nat → ClassId) (dI : Nat → Nat → Nat) (cI cZ cS : ClassId) (q5 q5bk q5nw q5to q5ne q5st q5pd q5cn q5ig q5ik : Nat) (sz : Nat) (th : Int32) (si : Int32) (sn : Int32) (re : Int32) (ac : Int32) (fa : Int32) (fw : Int32) (bk : Ar) (nw : Ar) (to : Ar) (ne : Ar) (st : Ar) (pd : Ar) (cn : Ar) (ig : Ar) (ik : Ar) (v1 : Int32) (r0 : Int32) (hs : m_X5_whyNot v1 nw = r0) : Met l yX5_whyNot (.code yX5_whyNot cX5_whyNot 3 (some .int) :: kG) rm_X5_whyNot (va_Pc [.ref q5, .int v1] (kW (dC, dI) cI cZ cS [(q5, .inr (5, [.ref q5bk, .ref q5nw, .ref q5to, .int th, .ref q5ne, .int si, .ref q5st, .int sn, .ref q5pd, .int re, .int ac, .int fa, .int fw, .ref q5cn, .ref q5ig, .ref q5ik])), (q5bk, .inl (cI, 15, .inl bk)), (q5nw, .inl (cI, 15, .inl nw)), (q5to, .inl (cI, 12, .inl to)), (q5ne, .inl (cI, 8, .inl ne)), (q5st, .inl (cI, 16, .inl st)), (q5pd, .inl (cI, 60, .inl pd)), (q5cn, .inl (cI, 3, .inl cn)), (q5ig, .inl (cI, 120, .inl ig)), (q5ik, .inl (cZ, 2, .inl ik))] sz)) (kQi (dC, dI) [(q5, .inr (5, [.ref q5bk, .ref q5nw, .ref q5to, .int th, .ref q5ne, .int si, .ref q5st, .int sn, .ref q5pd, .int re, .int ac, .int fa, .int fw, .ref q5cn, .ref q5ig, .ref q5ik])), (q5bk, .inl (cI, 15, .inl bk)), (q5nw, .inl (cI, 15, .inl nw)), (q5to, .inl (cI, 12, .inl to)), (q5ne, .inl (cI, 8, .inl ne)), (q5st, .inl (cI, 16, .inl st)), (q5pd, .inl (cI, 60, .inl pd)), (q5cn, .inl (cI, 3, .inl cn)), (q5ig, .inl (cI, 120, .inl ig)), (q5ik, .inl (cZ, 2, .inl ik))] [(q5, .inr (5, [.ref q5bk, .ref q5nw, .ref q5to, .int th, .ref q5ne, .int si, .ref q5st, .int sn, .ref q5pd, .int re, .int ac, .int fa, .int fw, .ref q5cn, .ref q5ig, .ref q5ik])), (q5bk, .inl (cI, 15, .inl bk)), (q5nw, .inl (cI, 15, .inl nw)), (q5to, .inl (cI, 12, .inl to)), (q5ne, .inl (cI, 8, .inl ne)), (q5st, .inl (cI, 16, .inl st)), (q5pd, .inl (cI, 60, .inl pd)), (q5cn, .inl (cI, 3, .inl cn)), (q5ig, .inl (cI, 120, .inl ig)), (q5ik, .inl (cZ, 2, .inl ik))] sz r0) 0 0 (va_A [(q5, .inr (5, [.ref q5bk, .ref q5nw, .ref q5to, .int th, .ref q5ne, .int si, .ref q5st, .int sn, .ref q5pd, .int re, .int ac, .int fa, .int fw, .ref q5cn, .ref q5ig, .ref q5ik])), (q5bk, .inl (cI, 15, .inl bk)), (q5nw, .inl (cI, 15, .inl nw)), (q5to, .inl (cI, 12, .inl to)), (q5ne, .inl (cI, 8, .inl ne)), (q5st, .inl (cI, 16, .inl st)), (q5pd, .inl (cI, 60, .inl pd)), (q5cn, .inl (cI, 3, .inl cn)), (q5ig, .inl (cI, 120, .inl ig)), (q5ik, .inl (cZ, 2, .inl ik))] sz) := by
  refine kMi (own := RX5) (ty := .int) rfl (by decide) rfl ?_ (Nat.le_of_ble_eq_true rfl)
  intro p e s m args below meth c Q A CF hK hN hA hP hD hret ls hl
  have hS : va_S A s.heap s.heap [] := va_S.rf
  obtain ⟨hx, hb, hml, hown, hts⟩ := id CF
  have hl : lv_has ls 3 [(0, .ref q5), (1, .int v1)] := hl
  unfold m_X5_whyNot at hs
  refine lv_iload_n hx hb dX5_whyNot_0 rfl (lv_at hl 1 rfl) ?_
  refine lv_bipush (v := 46) hx hb dX5_whyNot_1 (by decide) ?_
  have hJ_17 : ∀ (s17_0 : Int32) (H : Heap) (locs : List Loc) (ls : Array Slot), va_P (dC, dI) vwCl [(q5, .inr (5, [.ref q5bk, .ref q5nw, .ref q5to, .int th, .ref q5ne, .int si, .ref q5st, .int sn, .ref q5pd, .int re, .int ac, .int fa, .int fw, .ref q5cn, .ref q5ig, .ref q5ik])), (q5bk, .inl (cI, 15, .inl bk)), (q5nw, .inl (cI, 15, .inl nw)), (q5to, .inl (cI, 12, .inl to)), (q5ne, .inl (cI, 8, .inl ne)), (q5st, .inl (cI, 16, .inl st)), (q5pd, .inl (cI, 60, .inl pd)), (q5cn, .inl (cI, 3, .inl cn)), (q5ig, .inl (cI, 120, .inl ig)), (q5ik, .inl (cZ, 2, .inl ik))] H → va_D A [(q5, .inr (5, [.ref q5bk, .ref q5nw, .ref q5to, .int th, .ref q5ne, .int si, .ref q5st, .int sn, .ref q5pd, .int re, .int ac, .int fa, .int fw, .ref q5cn, .ref q5ig, .ref q5ik])), (q5bk, .inl (cI, 15, .inl bk)), (q5nw, .inl (cI, 15, .inl nw)), (q5to, .inl (cI, 12, .inl to)), (q5ne, .inl (cI, 8, .inl ne)), (q5st, .inl (cI, 16, .inl st)), (q5pd, .inl (cI, 60, .inl pd)), (q5cn, .inl (cI, 3, .inl cn)), (q5ig, .inl (cI, 120, .inl ig)), (q5ik, .inl (cZ, 2, .inl ik))] → va_S A s.heap H locs → lv_has ls 3 [(0, .ref q5), (1, .int v1)] → j_X5_whyNot_17 v1 s17_0 nw = r0 → W p l e rm_X5_whyNot s m args below meth c H locs 0 0 Q (F0 m 17 ls [.int s17_0]) := by
    intro s17_0 H locs ls hP hD hS hl hs
    unfold j_X5_whyNot_17 at hs
    refine lv_istore_n (lv' := [(2, .int s17_0), (0, .ref q5), (1, .int v1)]) hx hb dX5_whyNot_17 rfl hl (by decide) rfl (fun ls hl => ?_)
    refine lv_iload_n hx hb dX5_whyNot_18 rfl (lv_at hl 0 rfl) ?_
    refine lv_if_eq (tgt := 40) hx hb dX5_whyNot_19 (by decide) (fun c_3 => ?_) (fun c_3 => ?_)
    · replace hs := if_p c_3 hs
      refine lv_iload_n hx hb dX5_whyNot_40 rfl (lv_at hl 2 rfl) ?_
      refine lv_bipush (v := 33) hx hb dX5_whyNot_41 (by decide) ?_
      refine lv_icmp_ne (tgt := 64) hx hb dX5_whyNot_43 (by decide) (fun c_4 => ?_) (fun c_4 => ?_)
      · replace hs := if_n c_4 hs
        refine lv_aload_n hx hb dX5_whyNot_64 rfl (lv_at hl 1 rfl) ?_
        refine va_get (D := (dC, dI)) (ci := 5) (v := .ref q5nw) (C := RX5) (T := TX5) (N := 16) hx hb hts (fun w h => kg1 (iG_5 w h)) hown hK hP 0 rfl rfl 1 (by decide) (hts _ (kg1 mG_317)) (fun _ h9 => h9) rfl dX5_whyNot_65 ?_
        refine lv_bipush (v := 13) hx hb dX5_whyNot_68 (by decide) ?_
        refine kald hx hb hK hP 2 0 rfl rfl (j := 13) rfl (inb_e (i := (13 : Int32)) (n := 15) rfl) dX5_whyNot_70 ?_
        refine lv_if_ne (tgt := 78) hx hb dX5_whyNot_71 (by decide) (fun c_5 => ?_) (fun c_5 => ?_)
        · replace hs := if_n c_5 hs
          refine lv_iconst (v := 0) hx hb dX5_whyNot_78 (by decide) ?_
          cases hs
          exact hret _ _ _ _ hP hD hS (vp_nar_int _) dX5_whyNot_79
        · replace hs := if_p c_5 hs
          refine lv_iconst (v := 3) hx hb dX5_whyNot_74 (by decide) ?_
          refine lv_goto (tgt := 79) hx hb dX5_whyNot_75 (by decide) ?_
          cases hs
          exact hret _ _ _ _ hP hD hS (vp_nar_int _) dX5_whyNot_79
      · replace hs := if_p c_4 hs
        refine lv_aload_n hx hb dX5_whyNot_46 rfl (lv_at hl 1 rfl) ?_
        refine va_get (D := (dC, dI)) (ci := 5) (v := .ref q5nw) (C := RX5) (T := TX5) (N := 16) hx hb hts (fun w h => kg1 (iG_5 w h)) hown hK hP 0 rfl rfl 1 (by decide) (hts _ (kg1 mG_317)) (fun _ h9 => h9) rfl dX5_whyNot_47 ?_
        refine lv_bipush (v := 12) hx hb dX5_whyNot_50 (by decide) ?_
        refine kald hx hb hK hP 2 0 rfl rfl (j := 12) rfl (inb_e (i := (12 : Int32)) (n := 15) rfl) dX5_whyNot_52 ?_
        refine lv_if_ne (tgt := 60) hx hb dX5_whyNot_53 (by decide) (fun c_6 => ?_) (fun c_6 => ?_)
        · replace hs := if_n c_6 hs
          refine lv_iconst (v := 0) hx hb dX5_whyNot_60 (by decide) ?_
          refine lv_goto (tgt := 79) hx hb dX5_whyNot_61 (by decide) ?_
          cases hs
          exact hret _ _ _ _ hP hD hS (vp_nar_int _) dX5_whyNot_79
        · replace hs := if_p c_6 hs
          refine lv_iconst (v := 2) hx hb dX5_whyNot_56 (by decide) ?_
          refine lv_goto (tgt := 79) hx hb dX5_whyNot_57 (by decide) ?_
          cases hs
          exact hret _ _ _ _ hP hD hS (vp_nar_int _) dX5_whyNot_79
    · replace hs := if_n c_3 hs
      refine lv_aload_n hx hb dX5_whyNot_22 rfl (lv_at hl 1 rfl) ?_
      refine va_get (D := (dC, dI)) (ci := 5) (v := .ref q5nw) (C := RX5) (T := TX5) (N := 16) hx hb hts (fun w h => kg1 (iG_5 w h)) hown hK hP 0 rfl rfl 1 (by decide) (hts _ (kg1 mG_317)) (fun _ h9 => h9) rfl dX5_whyNot_23 ?_
      refine lv_bipush (v := 14) hx hb dX5_whyNot_26 (by decide) ?_
      refine kald hx hb hK hP 2 0 rfl rfl (j := 14) rfl (inb_e (i := (14 : Int32)) (n := 15) rfl) dX5_whyNot_28 ?_
      refine lv_bipush (v := 99) hx hb dX5_whyNot_29 (by decide) ?_
      refine lv_icmp_ne (tgt := 38) hx hb dX5_whyNot_31 (by decide) (fun c_7 => ?_) (fun c_7 => ?_)
      · replace hs := if_n c_7 hs
        refine lv_iconst (v := 0) hx hb dX5_whyNot_38 (by decide) ?_
        cases hs
        exact hret _ _ _ _ hP hD hS (vp_nar_int _) dX5_whyNot_39
      · replace hs := if_p c_7 hs
        refine lv_iconst (v := 1) hx hb dX5_whyNot_34 (by decide) ?_
        refine lv_goto (tgt := 39) hx hb dX5_whyNot_35 (by decide) ?_
        cases hs
        exact hret _ _ _ _ hP hD hS (vp_nar_int _) dX5_whyNot_39
  refine lv_icmp_eq (tgt := 12) hx hb dX5_whyNot_3 (by decide) (fun c_1 => ?_) (fun c_1 => ?_)
  · replace hs := if_p c_1 hs
    refine lv_iconst (v := 1) hx hb dX5_whyNot_12 (by decide) ?_
    refine lv_goto (tgt := 17) hx hb dX5_whyNot_13 (by decide) ?_
    exact hJ_17 (1 : Int32) _ _ _ hP hD hS (lv_sub hl [0, 1] rfl) hs
  · replace hs := if_n c_1 hs
    refine lv_iload_n hx hb dX5_whyNot_6 rfl (lv_at hl 1 rfl) ?_
    refine lv_bipush (v := 104) hx hb dX5_whyNot_7 (by decide) ?_
    refine lv_icmp_ne (tgt := 16) hx hb dX5_whyNot_9 (by decide) (fun c_2 => ?_) (fun c_2 => ?_)
    · replace hs := if_n c_2 hs
      refine lv_iconst (v := 0) hx hb dX5_whyNot_16 (by decide) ?_
      exact hJ_17 (0 : Int32) _ _ _ hP hD hS (lv_sub hl [0, 1] rfl) hs
    · replace hs := if_p c_2 hs
      refine lv_iconst (v := 1) hx hb dX5_whyNot_12 (by decide) ?_
      refine lv_goto (tgt := 17) hx hb dX5_whyNot_13 (by decide) ?_
      exact hJ_17 (1 : Int32) _ _ _ hP hD hS (lv_sub hl [0, 1] rfl) hs
abbrev rm_X5_act : Room := { frames := 3, cells := 0, slots := 0, locals := 66 }
theorem hd_X5_act : yX5_act.cls ≠ "java/lang/invoke/MethodHandle" ∧ yX5_act.cls ≠ "java/lang/invoke/VarHandle" ∧ (parseMethodDescriptor yX5_act.desc).map (fun d => d.parameters.length) = some 2 := by decide +kernel
set_option maxHeartbeats 4000000 in
set_option maxRecDepth 100000 in
theorem k_X5_act (l : Launch) (dC : Nat → ClassId) (dI : Nat → Nat → Nat) (cI cZ cS : ClassId) (q5 q5bk q5nw q5to q5ne q5st q5pd q5cn q5ig q5ik : Nat) (sz : Nat) (th : Int32) (si : Int32) (sn : Int32) (re : Int32) (ac : Int32) (fa : Int32) (fw : Int32) (bk : Ar) (nw : Ar) (to : Ar) (ne : Ar) (st : Ar) (pd : Ar) (cn : Ar) (ig : Ar) (ik : Ar) (v1 : Int32) (v2 : Int32) (nw_o : Ar) (hs : m_X5_act v1 v2 th nw to = some nw_o) : Met l yX5_act (.code yX5_act cX5_act 3 none :: kG) rm_X5_act (va_Pc [.ref q5, .int v1, .int v2] (kW (dC, dI) cI cZ cS [(q5, .inr (5, [.ref q5bk, .ref q5nw, .ref q5to, .int th, .ref q5ne, .int si, .ref q5st, .int sn, .ref q5pd, .int re, .int ac, .int fa, .int fw, .ref q5cn, .ref q5ig, .ref q5ik])), (q5bk, .inl (cI, 15, .inl bk)), (q5nw, .inl (cI, 15, .inl nw)), (q5to, .inl (cI, 12, .inl to)), (q5ne, .inl (cI, 8, .inl ne)), (q5st, .inl (cI, 16, .inl st)), (q5pd, .inl (cI, 60, .inl pd)), (q5cn, .inl (cI, 3, .inl cn)), (q5ig, .inl (cI, 120, .inl ig)), (q5ik, .inl (cZ, 2, .inl ik))] sz)) (kQv (dC, dI) [(q5, .inr (5, [.ref q5bk, .ref q5nw, .ref q5to, .int th, .ref q5ne, .int si, .ref q5st, .int sn, .ref q5pd, .int re, .int ac, .int fa, .int fw, .ref q5cn, .ref q5ig, .ref q5ik])), (q5bk, .inl (cI, 15, .inl bk)), (q5nw, .inl (cI, 15, .inl nw)), (q5to, .inl (cI, 12, .inl to)), (q5ne, .inl (cI, 8, .inl ne)), (q5st, .inl (cI, 16, .inl st)), (q5pd, .inl (cI, 60, .inl pd)), (q5cn, .inl (cI, 3, .inl cn)), (q5ig, .inl (cI, 120, .inl ig)), (q5ik, .inl (cZ, 2, .inl ik))] [(q5, .inr (5, [.ref q5bk, .ref q5nw, .ref q5to, .int th, .ref q5ne, .int si, .ref q5st, .int sn, .ref q5pd, .int re, .int ac, .int fa, .int fw, .ref q5cn, .ref q5ig, .ref q5ik])), (q5bk, .inl (cI, 15, .inl bk)), (q5nw, .inl (cI, 15, .inl nw_o)), (q5to, .inl (cI, 12, .inl to)), (q5ne, .inl (cI, 8, .inl ne)), (q5st, .inl (cI, 16, .inl st)), (q5pd, .inl (cI, 60, .inl pd)), (q5cn, .inl (cI, 3, .inl cn)), (q5ig, .inl (cI, 120, .inl ig)), (q5ik, .inl (cZ, 2, .inl ik))] sz) 0 0 (va_A [(q5, .inr (5, [.ref q5bk, .ref q5nw, .ref q5to, .int th, .ref q5ne, .int si, .ref q5st, .int sn, .ref q5pd, .int re, .int ac, .int fa, .int fw, .ref q5cn, .ref q5ig, .ref q5ik])), (q5bk, .inl (cI, 15, .inl bk)), (q5nw, .inl (cI, 15, .inl nw)), (q5to, .inl (cI, 12, .inl to)), (q5ne, .inl (cI, 8, .inl ne)), (q5st, .inl (cI, 16, .inl st)), (q5pd, .inl (cI, 60, .inl pd)), (q5cn, .inl (cI, 3, .inl cn)), (q5ig, .inl (cI, 120, .inl ig)), (q5ik, .inl (cZ, 2, .inl ik))] sz) := by
  refine kMv (own := RX5) (by decide) rfl ?_ (Nat.le_of_ble_eq_true rfl)
  intro p e s m args below meth c Q A CF hK hN hA hP hD hret ls hl
  have hS : va_S A s.heap s.heap [] := va_S.rf
  obtain ⟨hx, hb, hml, hown, hts⟩ := id CF
  have hl : lv_has ls 3 [(0, .ref q5), (1, .int v1), (2, .int v2)] := hl
  unfold m_X5_act at hs
  refine lv_iload_n hx hb dX5_act_0 rfl (lv_at hl 1 rfl) ?_
  by_cases c_1 : v1 = (33 : Int32)
  · replace hs := if_p c_1 hs
    refine lv_lookup (off := 95) (tgt := 96) hx hb dX5_act_1 (by decide) (by rw [c_1]; decide) (by decide) ?_
    refine lv_aload_n hx hb dX5_act_96 rfl (lv_at hl 0 rfl) ?_
    obtain ⟨nw_2, hc_3, hs⟩ := ob1_e hs
    refine kcv (wr := []) (ws' := [(q5, .inr (5, [.ref q5bk, .ref q5nw, .ref q5to, .int th, .ref q5ne, .int si, .ref q5st, .int sn, .ref q5pd, .int re, .int ac, .int fa, .int fw, .ref q5cn, .ref q5ig, .ref q5ik])), (q5bk, .inl (cI, 15, .inl bk)), (q5nw, .inl (cI, 15, .inl nw_2)), (q5to, .inl (cI, 12, .inl to)), (q5ne, .inl (cI, 8, .inl ne)), (q5st, .inl (cI, 16, .inl st)), (q5pd, .inl (cI, 60, .inl pd)), (q5cn, .inl (cI, 3, .inl cn)), (q5ig, .inl (cI, 120, .inl ig)), (q5ik, .inl (cZ, 2, .inl ik))]) (va_runV (As := []) (rest := []) ⟨hx, hb, hml, hown, hts⟩ (k_X5_cry l dC dI cI cZ cS q5 q5bk q5nw q5to q5ne q5st q5pd q5cn q5ig q5ik s.heap.size th si sn re ac fa fw bk nw to ne st pd cn ig ik nw_2 hc_3) (cwV 0 hts (kGood (kgV mG_367 mG_368 mG_369 mG_332 mG_361)) rfl rfl rfl ⟨rfl, hd_X5_cry⟩ ⟨Nat.le_of_ble_eq_true rfl, Nat.le_of_ble_eq_true rfl⟩) (kpV hK hN (hP.sub (ws' := [(q5, .inr (5, [.ref q5bk, .ref q5nw, .ref q5to, .int th, .ref q5ne, .int si, .ref q5st, .int sn, .ref q5pd, .int re, .int ac, .int fa, .int fw, .ref q5cn, .ref q5ig, .ref q5ik])), (q5bk, .inl (cI, 15, .inl bk)), (q5nw, .inl (cI, 15, .inl nw)), (q5to, .inl (cI, 12, .inl to)), (q5ne, .inl (cI, 8, .inl ne)), (q5st, .inl (cI, 16, .inl st)), (q5pd, .inl (cI, 60, .inl pd)), (q5cn, .inl (cI, 3, .inl cn)), (q5ig, .inl (cI, 120, .inl ig)), (q5ik, .inl (cZ, 2, .inl ik))]) [0, 1, 2, 3, 4, 5, 6, 7, 8, 9] rfl) (hD.sub (ws' := [(q5, .inr (5, [.ref q5bk, .ref q5nw, .ref q5to, .int th, .ref q5ne, .int si, .ref q5st, .int sn, .ref q5pd, .int re, .int ac, .int fa, .int fw, .ref q5cn, .ref q5ig, .ref q5ik])), (q5bk, .inl (cI, 15, .inl bk)), (q5nw, .inl (cI, 15, .inl nw)), (q5to, .inl (cI, 12, .inl to)), (q5ne, .inl (cI, 8, .inl ne)), (q5st, .inl (cI, 16, .inl st)), (q5pd, .inl (cI, 60, .inl pd)), (q5cn, .inl (cI, 3, .inl cn)), (q5ig, .inl (cI, 120, .inl ig)), (q5ik, .inl (cZ, 2, .inl ik))]) [0, 1, 2, 3, 4, 5, 6, 7, 8, 9] rfl rfl) rfl rfl rfl) rfl rfl hl.1 rfl (lv_room (Nat.le_of_ble_eq_true rfl)) dX5_act_97 ⟨Nat.zero_le _, Nat.zero_le _⟩) hP hD hS hA [0, 1, 2, 3, 4, 5, 6, 7, 8, 9] [] [0, 1, 2, 3, 4, 5, 6, 7, 8, 9] rfl rfl rfl (by decide) rfl rfl (fun H locs hP hD hS => ?_)
    refine lv_goto (tgt := 107) hx hb dX5_act_100 (by decide) ?_
    cases hs
    exact hret _ _ _ _ hP hD hS dX5_act_107
  replace hs := if_n c_1 hs
  by_cases c_4 : v1 = (46 : Int32)
  · replace hs := if_p c_4 hs
    refine lv_lookup (off := 35) (tgt := 36) hx hb dX5_act_1 (by decide) (by rw [c_4]; decide) (by decide) ?_
    refine lv_aload_n hx hb dX5_act_36 rfl (lv_at hl 0 rfl) ?_
    refine va_get (D := (dC, dI)) (ci := 5) (v := .ref q5nw) (C := RX5) (T := TX5) (N := 16) hx hb hts (fun w h => kg1 (iG_5 w h)) hown hK hP 0 rfl rfl 1 (by decide) (hts _ (kg1 mG_317)) (fun _ h9 => h9) rfl dX5_act_37 ?_
    refine lv_bipush (v := 12) hx hb dX5_act_40 (by decide) ?_
    refine lv_dup2_11 hx hb dX5_act_42 rfl rfl ?_
    refine kald hx hb hK hP 2 0 rfl rfl (j := 12) rfl (inb_e (i := (12 : Int32)) (n := 15) rfl) dX5_act_43 ?_
    refine lv_aload_n hx hb dX5_act_44 rfl (lv_at hl 0 rfl) ?_
    refine va_get (D := (dC, dI)) (ci := 5) (v := .ref q5nw) (C := RX5) (T := TX5) (N := 16) hx hb hts (fun w h => kg1 (iG_5 w h)) hown hK hP 0 rfl rfl 1 (by decide) (hts _ (kg1 mG_317)) (fun _ h9 => h9) rfl dX5_act_45 ?_
    refine lv_bipush (v := 12) hx hb dX5_act_48 (by decide) ?_
    refine kald hx hb hK hP 2 0 rfl rfl (j := 12) rfl (inb_e (i := (12 : Int32)) (n := 15) rfl) dX5_act_50 ?_
    refine lv_bipush (v := 99) hx hb dX5_act_51 (by decide) ?_
    have hJ_61 : ∀ (s61_0 : Int32) (s61_1 : Int32) (s61_2 : Int32) (nw : Ar) (H : Heap) (locs : List Loc) (ls : Array Slot), va_P (dC, dI) vwCl [(q5, .inr (5, [.ref q5bk, .ref q5nw, .ref q5to, .int th, .ref q5ne, .int si, .ref q5st, .int sn, .ref q5pd, .int re, .int ac, .int fa, .int fw, .ref q5cn, .ref q5ig, .ref q5ik])), (q5bk, .inl (cI, 15, .inl bk)), (q5nw, .inl (cI, 15, .inl nw)), (q5to, .inl (cI, 12, .inl to)), (q5ne, .inl (cI, 8, .inl ne)), (q5st, .inl (cI, 16, .inl st)), (q5pd, .inl (cI, 60, .inl pd)), (q5cn, .inl (cI, 3, .inl cn)), (q5ig, .inl (cI, 120, .inl ig)), (q5ik, .inl (cZ, 2, .inl ik))] H → va_D A [(q5, .inr (5, [.ref q5bk, .ref q5nw, .ref q5to, .int th, .ref q5ne, .int si, .ref q5st, .int sn, .ref q5pd, .int re, .int ac, .int fa, .int fw, .ref q5cn, .ref q5ig, .ref q5ik])), (q5bk, .inl (cI, 15, .inl bk)), (q5nw, .inl (cI, 15, .inl nw)), (q5to, .inl (cI, 12, .inl to)), (q5ne, .inl (cI, 8, .inl ne)), (q5st, .inl (cI, 16, .inl st)), (q5pd, .inl (cI, 60, .inl pd)), (q5cn, .inl (cI, 3, .inl cn)), (q5ig, .inl (cI, 120, .inl ig)), (q5ik, .inl (cZ, 2, .inl ik))] → va_S A s.heap H locs → lv_has ls 3 [(0, .ref q5)] → j_X5_act_61 s61_0 s61_1 s61_2 nw = some nw_o → W p l e rm_X5_act s m args below meth c H locs 0 0 Q (F0 m 61 ls [.int s61_0, .int s61_1, .int s61_2, .ref q5nw]) := by
      intro s61_0 s61_1 s61_2 nw H locs ls hP hD hS hl hs
      unfold j_X5_act_61 at hs
      refine lv_iadd hx hb dX5_act_61 ?_
      obtain ⟨hg_11, hs⟩ := gd_e hs
      refine kast hx hb hK hP hD hS 2 0 rfl rfl (j := (Int32.toNatClampNeg s61_2)) rfl (inb_e hg_11) dX5_act_62 (fun H locs hP hD hS => ?_)
      have hP : va_P (dC, dI) vwCl [(q5, .inr (5, [.ref q5bk, .ref q5nw, .ref q5to, .int th, .ref q5ne, .int si, .ref q5st, .int sn, .ref q5pd, .int re, .int ac, .int fa, .int fw, .ref q5cn, .ref q5ig, .ref q5ik])), (q5bk, .inl (cI, 15, .inl bk)), (q5nw, .inl (cI, 15, .inl (upd nw (Int32.toNatClampNeg s61_2) (s61_1 + s61_0)))), (q5to, .inl (cI, 12, .inl to)), (q5ne, .inl (cI, 8, .inl ne)), (q5st, .inl (cI, 16, .inl st)), (q5pd, .inl (cI, 60, .inl pd)), (q5cn, .inl (cI, 3, .inl cn)), (q5ig, .inl (cI, 120, .inl ig)), (q5ik, .inl (cZ, 2, .inl ik))] H := hP
      have hD : va_D A [(q5, .inr (5, [.ref q5bk, .ref q5nw, .ref q5to, .int th, .ref q5ne, .int si, .ref q5st, .int sn, .ref q5pd, .int re, .int ac, .int fa, .int fw, .ref q5cn, .ref q5ig, .ref q5ik])), (q5bk, .inl (cI, 15, .inl bk)), (q5nw, .inl (cI, 15, .inl (upd nw (Int32.toNatClampNeg s61_2) (s61_1 + s61_0)))), (q5to, .inl (cI, 12, .inl to)), (q5ne, .inl (cI, 8, .inl ne)), (q5st, .inl (cI, 16, .inl st)), (q5pd, .inl (cI, 60, .inl pd)), (q5cn, .inl (cI, 3, .inl cn)), (q5ig, .inl (cI, 120, .inl ig)), (q5ik, .inl (cZ, 2, .inl ik))] := hD
      refine lv_aload_n hx hb dX5_act_63 rfl (lv_at hl 0 rfl) ?_
      refine va_get (D := (dC, dI)) (ci := 5) (v := .ref q5nw) (C := RX5) (T := TX5) (N := 16) hx hb hts (fun w h => kg1 (iG_5 w h)) hown hK hP 0 rfl rfl 1 (by decide) (hts _ (kg1 mG_317)) (fun _ h9 => h9) rfl dX5_act_64 ?_
      refine lv_bipush (v := 14) hx hb dX5_act_67 (by decide) ?_
      refine lv_dup2_11 hx hb dX5_act_69 rfl rfl ?_
      refine kald hx hb hK hP 2 0 rfl rfl (j := 14) rfl (inb_e (i := (14 : Int32)) (n := 15) rfl) dX5_act_70 ?_
      refine lv_iconst (v := 1) hx hb dX5_act_71 (by decide) ?_
      refine lv_iadd hx hb dX5_act_72 ?_
      refine lv_topi (fun w_12 ew_12 => ?_)
      replace hs := bnd_e ew_12 hs
      refine kast hx hb hK hP hD hS 2 0 rfl rfl (j := 14) rfl (inb_e (i := (14 : Int32)) (n := 15) rfl) dX5_act_73 (fun H locs hP hD hS => ?_)
      have hP : va_P (dC, dI) vwCl [(q5, .inr (5, [.ref q5bk, .ref q5nw, .ref q5to, .int th, .ref q5ne, .int si, .ref q5st, .int sn, .ref q5pd, .int re, .int ac, .int fa, .int fw, .ref q5cn, .ref q5ig, .ref q5ik])), (q5bk, .inl (cI, 15, .inl bk)), (q5nw, .inl (cI, 15, .inl (upd (upd nw (Int32.toNatClampNeg s61_2) (s61_1 + s61_0)) 14 w_12))), (q5to, .inl (cI, 12, .inl to)), (q5ne, .inl (cI, 8, .inl ne)), (q5st, .inl (cI, 16, .inl st)), (q5pd, .inl (cI, 60, .inl pd)), (q5cn, .inl (cI, 3, .inl cn)), (q5ig, .inl (cI, 120, .inl ig)), (q5ik, .inl (cZ, 2, .inl ik))] H := hP
      have hD : va_D A [(q5, .inr (5, [.ref q5bk, .ref q5nw, .ref q5to, .int th, .ref q5ne, .int si, .ref q5st, .int sn, .ref q5pd, .int re, .int ac, .int fa, .int fw, .ref q5cn, .ref q5ig, .ref q5ik])), (q5bk, .inl (cI, 15, .inl bk)), (q5nw, .inl (cI, 15, .inl (upd (upd nw (Int32.toNatClampNeg s61_2) (s61_1 + s61_0)) 14 w_12))), (q5to, .inl (cI, 12, .inl to)), (q5ne, .inl (cI, 8, .inl ne)), (q5st, .inl (cI, 16, .inl st)), (q5pd, .inl (cI, 60, .inl pd)), (q5cn, .inl (cI, 3, .inl cn)), (q5ig, .inl (cI, 120, .inl ig)), (q5ik, .inl (cZ, 2, .inl ik))] := hD
      refine lv_goto (tgt := 107) hx hb dX5_act_74 (by decide) ?_
      cases hs
      exact hret _ _ _ _ hP hD hS dX5_act_107
    refine lv_icmp_ge (tgt := 60) hx hb dX5_act_53 (by decide) (fun c_5 => ?_) (fun c_5 => ?_)
    · replace hs := if_p c_5 hs
      refine lv_iconst (v := 0) hx hb dX5_act_60 (by decide) ?_
      exact hJ_61 (0 : Int32) (nw 12) (12 : Int32) nw _ _ _ hP hD hS (lv_sub hl [0] rfl) hs
    · replace hs := if_n c_5 hs
      refine lv_iconst (v := 1) hx hb dX5_act_56 (by decide) ?_
      refine lv_goto (tgt := 61) hx hb dX5_act_57 (by decide) ?_
      exact hJ_61 (1 : Int32) (nw 12) (12 : Int32) nw _ _ _ hP hD hS (lv_sub hl [0] rfl) hs
  replace hs := if_n c_4 hs
  by_cases c_6 : v1 = (104 : Int32)
  · replace hs := if_p c_6 hs
    refine lv_lookup (off := 76) (tgt := 77) hx hb dX5_act_1 (by decide) (by rw [c_6]; decide) (by decide) ?_
    refine lv_aload_n hx hb dX5_act_77 rfl (lv_at hl 0 rfl) ?_
    refine lv_iload_n hx hb dX5_act_78 rfl (lv_at hl 2 rfl) ?_
    obtain ⟨nw_7, hc_8, hs⟩ := ob1_e hs
    refine kcv (wr := []) (ws' := [(q5, .inr (5, [.ref q5bk, .ref q5nw, .ref q5to, .int th, .ref q5ne, .int si, .ref q5st, .int sn, .ref q5pd, .int re, .int ac, .int fa, .int fw, .ref q5cn, .ref q5ig, .ref q5ik])), (q5bk, .inl (cI, 15, .inl bk)), (q5nw, .inl (cI, 15, .inl nw_7)), (q5to, .inl (cI, 12, .inl to)), (q5ne, .inl (cI, 8, .inl ne)), (q5st, .inl (cI, 16, .inl st)), (q5pd, .inl (cI, 60, .inl pd)), (q5cn, .inl (cI, 3, .inl cn)), (q5ig, .inl (cI, 120, .inl ig)), (q5ik, .inl (cZ, 2, .inl ik))]) (va_runV (As := [.int v2]) (rest := []) ⟨hx, hb, hml, hown, hts⟩ (k_X5_blow l dC dI cI cZ cS q5 q5bk q5nw q5to q5ne q5st q5pd q5cn q5ig q5ik s.heap.size th si sn re ac fa fw bk nw to ne st pd cn ig ik v2 nw_7 hc_8) (cwV 1 hts (kGood (kgV mG_364 mG_365 mG_366 mG_332 mG_355)) rfl rfl rfl ⟨rfl, hd_X5_blow⟩ ⟨Nat.le_of_ble_eq_true rfl, Nat.le_of_ble_eq_true rfl⟩) (kpV hK hN (hP.sub (ws' := [(q5, .inr (5, [.ref q5bk, .ref q5nw, .ref q5to, .int th, .ref q5ne, .int si, .ref q5st, .int sn, .ref q5pd, .int re, .int ac, .int fa, .int fw, .ref q5cn, .ref q5ig, .ref q5ik])), (q5bk, .inl (cI, 15, .inl bk)), (q5nw, .inl (cI, 15, .inl nw)), (q5to, .inl (cI, 12, .inl to)), (q5ne, .inl (cI, 8, .inl ne)), (q5st, .inl (cI, 16, .inl st)), (q5pd, .inl (cI, 60, .inl pd)), (q5cn, .inl (cI, 3, .inl cn)), (q5ig, .inl (cI, 120, .inl ig)), (q5ik, .inl (cZ, 2, .inl ik))]) [0, 1, 2, 3, 4, 5, 6, 7, 8, 9] rfl) (hD.sub (ws' := [(q5, .inr (5, [.ref q5bk, .ref q5nw, .ref q5to, .int th, .ref q5ne, .int si, .ref q5st, .int sn, .ref q5pd, .int re, .int ac, .int fa, .int fw, .ref q5cn, .ref q5ig, .ref q5ik])), (q5bk, .inl (cI, 15, .inl bk)), (q5nw, .inl (cI, 15, .inl nw)), (q5to, .inl (cI, 12, .inl to)), (q5ne, .inl (cI, 8, .inl ne)), (q5st, .inl (cI, 16, .inl st)), (q5pd, .inl (cI, 60, .inl pd)), (q5cn, .inl (cI, 3, .inl cn)), (q5ig, .inl (cI, 120, .inl ig)), (q5ik, .inl (cZ, 2, .inl ik))]) [0, 1, 2, 3, 4, 5, 6, 7, 8, 9] rfl rfl) rfl rfl rfl) rfl rfl hl.1 rfl (lv_room (Nat.le_of_ble_eq_true rfl)) dX5_act_79 ⟨Nat.zero_le _, Nat.zero_le _⟩) hP hD hS hA [0, 1, 2, 3, 4, 5, 6, 7, 8, 9] [] [0, 1, 2, 3, 4, 5, 6, 7, 8, 9] rfl rfl rfl (by decide) rfl rfl (fun H locs hP hD hS => ?_)
    refine lv_aload_n hx hb dX5_act_82 rfl (lv_at hl 0 rfl) ?_
    refine va_get (D := (dC, dI)) (ci := 5) (v := .ref q5nw) (C := RX5) (T := TX5) (N := 16) hx hb hts (fun w h => kg1 (iG_5 w h)) hown hK hP 0 rfl rfl 1 (by decide) (hts _ (kg1 mG_317)) (fun _ h9 => h9) rfl dX5_act_83 ?_
    refine lv_bipush (v := 14) hx hb dX5_act_86 (by decide) ?_
    refine lv_dup2_11 hx hb dX5_act_88 rfl rfl ?_
    refine kald hx hb hK hP 2 0 rfl rfl (j := 14) rfl (inb_e (i := (14 : Int32)) (n := 15) rfl) dX5_act_89 ?_
    refine lv_iconst (v := 1) hx hb dX5_act_90 (by decide) ?_
    refine lv_iadd hx hb dX5_act_91 ?_
    refine kast hx hb hK hP hD hS 2 0 rfl rfl (j := 14) rfl (inb_e (i := (14 : Int32)) (n := 15) rfl) dX5_act_92 (fun H locs hP hD hS => ?_)
    have hP : va_P (dC, dI) vwCl [(q5, .inr (5, [.ref q5bk, .ref q5nw, .ref q5to, .int th, .ref q5ne, .int si, .ref q5st, .int sn, .ref q5pd, .int re, .int ac, .int fa, .int fw, .ref q5cn, .ref q5ig, .ref q5ik])), (q5bk, .inl (cI, 15, .inl bk)), (q5nw, .inl (cI, 15, .inl (upd nw_7 14 ((nw_7 14) + (1 : Int32))))), (q5to, .inl (cI, 12, .inl to)), (q5ne, .inl (cI, 8, .inl ne)), (q5st, .inl (cI, 16, .inl st)), (q5pd, .inl (cI, 60, .inl pd)), (q5cn, .inl (cI, 3, .inl cn)), (q5ig, .inl (cI, 120, .inl ig)), (q5ik, .inl (cZ, 2, .inl ik))] H := hP
    have hD : va_D A [(q5, .inr (5, [.ref q5bk, .ref q5nw, .ref q5to, .int th, .ref q5ne, .int si, .ref q5st, .int sn, .ref q5pd, .int re, .int ac, .int fa, .int fw, .ref q5cn, .ref q5ig, .ref q5ik])), (q5bk, .inl (cI, 15, .inl bk)), (q5nw, .inl (cI, 15, .inl (upd nw_7 14 ((nw_7 14) + (1 : Int32))))), (q5to, .inl (cI, 12, .inl to)), (q5ne, .inl (cI, 8, .inl ne)), (q5st, .inl (cI, 16, .inl st)), (q5pd, .inl (cI, 60, .inl pd)), (q5cn, .inl (cI, 3, .inl cn)), (q5ig, .inl (cI, 120, .inl ig)), (q5ik, .inl (cZ, 2, .inl ik))] := hD
    refine lv_goto (tgt := 107) hx hb dX5_act_93 (by decide) ?_
    cases hs
    exact hret _ _ _ _ hP hD hS dX5_act_107
  replace hs := if_n c_6 hs
  refine lv_lookup (off := 102) (tgt := 103) hx hb dX5_act_1 (by decide) (show Op.lookupswitch.offset [(33, 95), (46, 35), (104, 76)] 102 (Int32.toInt v1) = 102 from by rw [lv_osw c_1 (by decide), lv_osw c_4 (by decide), lv_osw c_6 (by decide)]; rfl) (by decide) ?_
  refine lv_aload_n hx hb dX5_act_103 rfl (lv_at hl 0 rfl) ?_
  obtain ⟨nw_9, hc_10, hs⟩ := ob1_e hs
  refine kcv (wr := []) (ws' := [(q5, .inr (5, [.ref q5bk, .ref q5nw, .ref q5to, .int th, .ref q5ne, .int si, .ref q5st, .int sn, .ref q5pd, .int re, .int ac, .int fa, .int fw, .ref q5cn, .ref q5ig, .ref q5ik])), (q5bk, .inl (cI, 15, .inl bk)), (q5nw, .inl (cI, 15, .inl nw_9)), (q5to, .inl (cI, 12, .inl to)), (q5ne, .inl (cI, 8, .inl ne)), (q5st, .inl (cI, 16, .inl st)), (q5pd, .inl (cI, 60, .inl pd)), (q5cn, .inl (cI, 3, .inl cn)), (q5ig, .inl (cI, 120, .inl ig)), (q5ik, .inl (cZ, 2, .inl ik))]) (va_runV (As := []) (rest := []) ⟨hx, hb, hml, hown, hts⟩ (k_X5_mend l dC dI cI cZ cS q5 q5bk q5nw q5to q5ne q5st q5pd q5cn q5ig q5ik s.heap.size th si sn re ac fa fw bk nw to ne st pd cn ig ik nw_9 hc_10) (cwV 0 hts (kGood (kgV mG_370 mG_371 mG_372 mG_332 mG_362)) rfl rfl rfl ⟨rfl, hd_X5_mend⟩ ⟨Nat.le_of_ble_eq_true rfl, Nat.le_of_ble_eq_true rfl⟩) (kpV hK hN (hP.sub (ws' := [(q5, .inr (5, [.ref q5bk, .ref q5nw, .ref q5to, .int th, .ref q5ne, .int si, .ref q5st, .int sn, .ref q5pd, .int re, .int ac, .int fa, .int fw, .ref q5cn, .ref q5ig, .ref q5ik])), (q5bk, .inl (cI, 15, .inl bk)), (q5nw, .inl (cI, 15, .inl nw)), (q5to, .inl (cI, 12, .inl to)), (q5ne, .inl (cI, 8, .inl ne)), (q5st, .inl (cI, 16, .inl st)), (q5pd, .inl (cI, 60, .inl pd)), (q5cn, .inl (cI, 3, .inl cn)), (q5ig, .inl (cI, 120, .inl ig)), (q5ik, .inl (cZ, 2, .inl ik))]) [0, 1, 2, 3, 4, 5, 6, 7, 8, 9] rfl) (hD.sub (ws' := [(q5, .inr (5, [.ref q5bk, .ref q5nw, .ref q5to, .int th, .ref q5ne, .int si, .ref q5st, .int sn, .ref q5pd, .int re, .int ac, .int fa, .int fw, .ref q5cn, .ref q5ig, .ref q5ik])), (q5bk, .inl (cI, 15, .inl bk)), (q5nw, .inl (cI, 15, .inl nw)), (q5to, .inl (cI, 12, .inl to)), (q5ne, .inl (cI, 8, .inl ne)), (q5st, .inl (cI, 16, .inl st)), (q5pd, .inl (cI, 60, .inl pd)), (q5cn, .inl (cI, 3, .inl cn)), (q5ig, .inl (cI, 120, .inl ig)), (q5ik, .inl (cZ, 2, .inl ik))]) [0, 1, 2, 3, 4, 5, 6, 7, 8, 9] rfl rfl) rfl rfl rfl) rfl rfl hl.1 rfl (lv_room (Nat.le_of_ble_eq_true rfl)) dX5_act_104 ⟨Nat.zero_le _, Nat.zero_le _⟩) hP hD hS hA [0, 1, 2, 3, 4, 5, 6, 7, 8, 9] [] [0, 1, 2, 3, 4, 5, 6, 7, 8, 9] rfl rfl rfl (by decide) rfl rfl (fun H locs hP hD hS => ?_)
  cases hs
  exact hret _ _ _ _ hP hD hS dX5_act_107
abbrev rm_X5_downSet : Room := { frames := 0, cells := 0, slots := 0, locals := 0 }
theorem hd_X5_downSet : yX5_downSet.cls ≠ "java/lang/invoke/MethodHandle" ∧ yX5_downSet.cls ≠ "java/lang/invoke/VarHandle" ∧ (parseMethodDescriptor yX5_downSet.desc).map (fun d => d.parameters.length) = some 0 := by decide +kernel
set_option maxHeartbeats 4000000 in
set_option maxRecDepth 100000 in
theorem k_X5_downSet (l : Launch) (dC : Nat → ClassId) (dI : Nat → Nat → Nat) (cI cZ cS : ClassId) (q5 q5bk q5nw q5to q5ne q5st q5pd q5cn q5ig q5ik : Nat) (sz : Nat) (th : Int32) (si : Int32) (sn : Int32) (re : Int32) (ac : Int32) (fa : Int32) (fw : Int32) (bk : Ar) (nw : Ar) (to : Ar) (ne : Ar) (st : Ar) (pd : Ar) (cn : Ar) (ig : Ar) (ik : Ar)  (r0 : Int32) (hs : m_X5_downSet nw = some r0) : Met l yX5_downSet (.code yX5_downSet cX5_downSet 3 (some .int) :: kG) rm_X5_downSet (va_Pc [.ref q5] (kW (dC, dI) cI cZ cS [(q5, .inr (5, [.ref q5bk, .ref q5nw, .ref q5to, .int th, .ref q5ne, .int si, .ref q5st, .int sn, .ref q5pd, .int re, .int ac, .int fa, .int fw, .ref q5cn, .ref q5ig, .ref q5ik])), (q5bk, .inl (cI, 15, .inl bk)), (q5nw, .inl (cI, 15, .inl nw)), (q5to, .inl (cI, 12, .inl to)), (q5ne, .inl (cI, 8, .inl ne)), (q5st, .inl (cI, 16, .inl st)), (q5pd, .inl (cI, 60, .inl pd)), (q5cn, .inl (cI, 3, .inl cn)), (q5ig, .inl (cI, 120, .inl ig)), (q5ik, .inl (cZ, 2, .inl ik))] sz)) (kQi (dC, dI) [(q5, .inr (5, [.ref q5bk, .ref q5nw, .ref q5to, .int th, .ref q5ne, .int si, .ref q5st, .int sn, .ref q5pd, .int re, .int ac, .int fa, .int fw, .ref q5cn, .ref q5ig, .ref q5ik])), (q5bk, .inl (cI, 15, .inl bk)), (q5nw, .inl (cI, 15, .inl nw)), (q5to, .inl (cI, 12, .inl to)), (q5ne, .inl (cI, 8, .inl ne)), (q5st, .inl (cI, 16, .inl st)), (q5pd, .inl (cI, 60, .inl pd)), (q5cn, .inl (cI, 3, .inl cn)), (q5ig, .inl (cI, 120, .inl ig)), (q5ik, .inl (cZ, 2, .inl ik))] [(q5, .inr (5, [.ref q5bk, .ref q5nw, .ref q5to, .int th, .ref q5ne, .int si, .ref q5st, .int sn, .ref q5pd, .int re, .int ac, .int fa, .int fw, .ref q5cn, .ref q5ig, .ref q5ik])), (q5bk, .inl (cI, 15, .inl bk)), (q5nw, .inl (cI, 15, .inl nw)), (q5to, .inl (cI, 12, .inl to)), (q5ne, .inl (cI, 8, .inl ne)), (q5st, .inl (cI, 16, .inl st)), (q5pd, .inl (cI, 60, .inl pd)), (q5cn, .inl (cI, 3, .inl cn)), (q5ig, .inl (cI, 120, .inl ig)), (q5ik, .inl (cZ, 2, .inl ik))] sz r0) 0 0 (va_A [(q5, .inr (5, [.ref q5bk, .ref q5nw, .ref q5to, .int th, .ref q5ne, .int si, .ref q5st, .int sn, .ref q5pd, .int re, .int ac, .int fa, .int fw, .ref q5cn, .ref q5ig, .ref q5ik])), (q5bk, .inl (cI, 15, .inl bk)), (q5nw, .inl (cI, 15, .inl nw)), (q5to, .inl (cI, 12, .inl to)), (q5ne, .inl (cI, 8, .inl ne)), (q5st, .inl (cI, 16, .inl st)), (q5pd, .inl (cI, 60, .inl pd)), (q5cn, .inl (cI, 3, .inl cn)), (q5ig, .inl (cI, 120, .inl ig)), (q5ik, .inl (cZ, 2, .inl ik))] sz) := by
  refine kMi (own := RX5) (ty := .int) rfl (by decide) rfl ?_ (Nat.le_of_ble_eq_true rfl)
  intro p e s m args below meth c Q A CF hK hN hA hP hD hret ls hl
  have hS : va_S A s.heap s.heap [] := va_S.rf
  obtain ⟨hx, hb, hml, hown, hts⟩ := id CF
  have hl : lv_has ls 3 [(0, .ref q5)] := hl
  unfold m_X5_downSet at hs
  refine lv_iconst (v := 0) hx hb dX5_downSet_0 (by decide) ?_
  refine lv_istore_n (lv' := [(1, .int (0 : Int32)), (0, .ref q5)]) hx hb dX5_downSet_1 rfl hl (by decide) rfl (fun ls hl => ?_)
  refine lv_iconst (v := 0) hx hb dX5_downSet_2 (by decide) ?_
  refine lv_istore_n (lv' := [(2, .int (0 : Int32)), (1, .int (0 : Int32)), (0, .ref q5)]) hx hb dX5_downSet_3 rfl hl (by decide) rfl (fun ls hl => ?_)
  have hL_4 : ∀ (n : Nat) (v1 : Int32) (v2 : Int32) (H : Heap) (locs : List Loc) (ls : Array Slot), va_P (dC, dI) vwCl [(q5, .inr (5, [.ref q5bk, .ref q5nw, .ref q5to, .int th, .ref q5ne, .int si, .ref q5st, .int sn, .ref q5pd, .int re, .int ac, .int fa, .int fw, .ref q5cn, .ref q5ig, .ref q5ik])), (q5bk, .inl (cI, 15, .inl bk)), (q5nw, .inl (cI, 15, .inl nw)), (q5to, .inl (cI, 12, .inl to)), (q5ne, .inl (cI, 8, .inl ne)), (q5st, .inl (cI, 16, .inl st)), (q5pd, .inl (cI, 60, .inl pd)), (q5cn, .inl (cI, 3, .inl cn)), (q5ig, .inl (cI, 120, .inl ig)), (q5ik, .inl (cZ, 2, .inl ik))] H → va_D A [(q5, .inr (5, [.ref q5bk, .ref q5nw, .ref q5to, .int th, .ref q5ne, .int si, .ref q5st, .int sn, .ref q5pd, .int re, .int ac, .int fa, .int fw, .ref q5cn, .ref q5ig, .ref q5ik])), (q5bk, .inl (cI, 15, .inl bk)), (q5nw, .inl (cI, 15, .inl nw)), (q5to, .inl (cI, 12, .inl to)), (q5ne, .inl (cI, 8, .inl ne)), (q5st, .inl (cI, 16, .inl st)), (q5pd, .inl (cI, 60, .inl pd)), (q5cn, .inl (cI, 3, .inl cn)), (q5ig, .inl (cI, 120, .inl ig)), (q5ik, .inl (cZ, 2, .inl ik))] → va_S A s.heap H locs → lv_has ls 3 [(0, .ref q5), (1, .int v1), (2, .int v2)] → L_X5_downSet_4 nw n v1 v2 = some r0 → W p l e rm_X5_downSet s m args below meth c H locs 0 0 Q (F0 m 4 ls []) := by
    intro n
    induction n with
    | zero =>
      intro v1 v2 H locs ls hP hD hS hl hs
      replace hs : (none : Option (Int32)) = some r0 := hs
      cases hs
    | succ n_4 ih_4 =>
      intro v1 v2 H locs ls hP hD hS hl hs
      replace hs : b_X5_downSet_4  (L_X5_downSet_4 nw n_4) nw v1 v2 = some r0 := hs
      unfold b_X5_downSet_4 at hs
      refine lv_iload_n hx hb dX5_downSet_4 rfl (lv_at hl 2 rfl) ?_
      refine lv_bipush (v := 12) hx hb dX5_downSet_5 (by decide) ?_
      refine lv_icmp_ge (tgt := 35) hx hb dX5_downSet_7 (by decide) (fun c_1 => ?_) (fun c_1 => ?_)
      · replace hs := if_p c_1 hs
        refine lv_iload_n hx hb dX5_downSet_35 rfl (lv_at hl 1 rfl) ?_
        cases hs
        exact hret _ _ _ _ hP hD hS (vp_nar_int _) dX5_downSet_36
      · replace hs := if_n c_1 hs
        refine lv_iload_n hx hb dX5_downSet_10 rfl (lv_at hl 1 rfl) ?_
        refine lv_aload_n hx hb dX5_downSet_11 rfl (lv_at hl 0 rfl) ?_
        refine va_get (D := (dC, dI)) (ci := 5) (v := .ref q5nw) (C := RX5) (T := TX5) (N := 16) hx hb hts (fun w h => kg1 (iG_5 w h)) hown hK hP 0 rfl rfl 1 (by decide) (hts _ (kg1 mG_317)) (fun _ h9 => h9) rfl dX5_downSet_12 ?_
        refine lv_iload_n hx hb dX5_downSet_15 rfl (lv_at hl 2 rfl) ?_
        obtain ⟨hg_2, hs⟩ := gd_e hs
        refine kald hx hb hK hP 2 0 rfl rfl (j := (Int32.toNatClampNeg v2)) rfl (inb_e hg_2) dX5_downSet_16 ?_
        refine lv_if_ne (tgt := 26) hx hb dX5_downSet_17 (by decide) (fun c_3 => ?_) (fun c_3 => ?_)
        · replace hs := if_n c_3 hs
          refine lv_iconst (v := 0) hx hb dX5_downSet_26 (by decide) ?_
          refine lv_ior hx hb dX5_downSet_27 ?_
          refine lv_istore_n (lv' := [(1, .int (v1 ||| (0 : Int32))), (0, .ref q5), (2, .int v2)]) hx hb dX5_downSet_28 rfl hl (by decide) rfl (fun ls hl => ?_)
          refine lv_iinc (v := (v2 + 1)) (lv' := [(2, .int (v2 + 1)), (1, .int (v1 ||| (0 : Int32))), (0, .ref q5)]) hx hb dX5_downSet_29 hl (k := 2) rfl rfl (by decide) rfl (fun ls hl => ?_)
          refine lv_goto (tgt := 4) hx hb dX5_downSet_32 (by decide) ?_
          exact ih_4 (v1 ||| (0 : Int32)) (v2 + 1) _ _ _ hP hD hS (lv_sub hl [2, 1, 0] rfl) hs
        · replace hs := if_p c_3 hs
          refine lv_iconst (v := 1) hx hb dX5_downSet_20 (by decide) ?_
          refine lv_iload_n hx hb dX5_downSet_21 rfl (lv_at hl 2 rfl) ?_
          refine lv_ishl hx hb dX5_downSet_22 ?_
          refine lv_goto (tgt := 27) hx hb dX5_downSet_23 (by decide) ?_
          refine lv_ior hx hb dX5_downSet_27 ?_
          refine lv_istore_n (lv' := [(1, .int (v1 ||| ((1 : Int32) <<< (v2 &&& 31)))), (0, .ref q5), (2, .int v2)]) hx hb dX5_downSet_28 rfl hl (by decide) rfl (fun ls hl => ?_)
          refine lv_iinc (v := (v2 + 1)) (lv' := [(2, .int (v2 + 1)), (1, .int (v1 ||| ((1 : Int32) <<< (v2 &&& 31)))), (0, .ref q5)]) hx hb dX5_downSet_29 hl (k := 2) rfl rfl (by decide) rfl (fun ls hl => ?_)
          refine lv_goto (tgt := 4) hx hb dX5_downSet_32 (by decide) ?_
          exact ih_4 (v1 ||| ((1 : Int32) <<< (v2 &&& 31))) (v2 + 1) _ _ _ hP hD hS (lv_sub hl [2, 1, 0] rfl) hs
  exact hL_4 fu (0 : Int32) (0 : Int32) _ _ _ hP hD hS (lv_sub hl [2, 1, 0] rfl) hs
abbrev rm_X5_goRounds : Room := { frames := 4, cells := 0, slots := 0, locals := 88 }
theorem hd_X5_goRounds : yX5_goRounds.cls ≠ "java/lang/invoke/MethodHandle" ∧ yX5_goRounds.cls ≠ "java/lang/invoke/VarHandle" ∧ (parseMethodDescriptor yX5_goRounds.desc).map (fun d => d.parameters.length) = some 0 := by decide +kernel
set_option maxHeartbeats 4000000 in
set_option maxRecDepth 100000 in
theorem k_X5_goRounds (l : Launch) (dC : Nat → ClassId) (dI : Nat → Nat → Nat) (cI cZ cS : ClassId) (q5 q5bk q5nw q5to q5ne q5st q5pd q5cn q5ig q5ik : Nat) (sz : Nat) (th : Int32) (si : Int32) (sn : Int32) (re : Int32) (ac : Int32) (fa : Int32) (fw : Int32) (bk : Ar) (nw : Ar) (to : Ar) (ne : Ar) (st : Ar) (pd : Ar) (cn : Ar) (ig : Ar) (ik : Ar)  (r0 : Int32) (re_o : Int32) (ac_o : Int32) (fa_o : Int32) (fw_o : Int32) (nw_o : Ar) (hs : m_X5_goRounds th sn re bk nw to pd = some (r0, re_o, ac_o, fa_o, fw_o, nw_o)) : Met l yX5_goRounds (.code yX5_goRounds cX5_goRounds 7 (some .int) :: kG) rm_X5_goRounds (va_Pc [.ref q5] (kW (dC, dI) cI cZ cS [(q5, .inr (5, [.ref q5bk, .ref q5nw, .ref q5to, .int th, .ref q5ne, .int si, .ref q5st, .int sn, .ref q5pd, .int re, .int ac, .int fa, .int fw, .ref q5cn, .ref q5ig, .ref q5ik])), (q5bk, .inl (cI, 15, .inl bk)), (q5nw, .inl (cI, 15, .inl nw)), (q5to, .inl (cI, 12, .inl to)), (q5ne, .inl (cI, 8, .inl ne)), (q5st, .inl (cI, 16, .inl st)), (q5pd, .inl (cI, 60, .inl pd)), (q5cn, .inl (cI, 3, .inl cn)), (q5ig, .inl (cI, 120, .inl ig)), (q5ik, .inl (cZ, 2, .inl ik))] sz)) (kQi (dC, dI) [(q5, .inr (5, [.ref q5bk, .ref q5nw, .ref q5to, .int th, .ref q5ne, .int si, .ref q5st, .int sn, .ref q5pd, .int re, .int ac, .int fa, .int fw, .ref q5cn, .ref q5ig, .ref q5ik])), (q5bk, .inl (cI, 15, .inl bk)), (q5nw, .inl (cI, 15, .inl nw)), (q5to, .inl (cI, 12, .inl to)), (q5ne, .inl (cI, 8, .inl ne)), (q5st, .inl (cI, 16, .inl st)), (q5pd, .inl (cI, 60, .inl pd)), (q5cn, .inl (cI, 3, .inl cn)), (q5ig, .inl (cI, 120, .inl ig)), (q5ik, .inl (cZ, 2, .inl ik))] [(q5, .inr (5, [.ref q5bk, .ref q5nw, .ref q5to, .int th, .ref q5ne, .int si, .ref q5st, .int sn, .ref q5pd, .int re_o, .int ac_o, .int fa_o, .int fw_o, .ref q5cn, .ref q5ig, .ref q5ik])), (q5bk, .inl (cI, 15, .inl bk)), (q5nw, .inl (cI, 15, .inl nw_o)), (q5to, .inl (cI, 12, .inl to)), (q5ne, .inl (cI, 8, .inl ne)), (q5st, .inl (cI, 16, .inl st)), (q5pd, .inl (cI, 60, .inl pd)), (q5cn, .inl (cI, 3, .inl cn)), (q5ig, .inl (cI, 120, .inl ig)), (q5ik, .inl (cZ, 2, .inl ik))] sz r0) 0 0 (va_A [(q5, .inr (5, [.ref q5bk, .ref q5nw, .ref q5to, .int th, .ref q5ne, .int si, .ref q5st, .int sn, .ref q5pd, .int re, .int ac, .int fa, .int fw, .ref q5cn, .ref q5ig, .ref q5ik])), (q5bk, .inl (cI, 15, .inl bk)), (q5nw, .inl (cI, 15, .inl nw)), (q5to, .inl (cI, 12, .inl to)), (q5ne, .inl (cI, 8, .inl ne)), (q5st, .inl (cI, 16, .inl st)), (q5pd, .inl (cI, 60, .inl pd)), (q5cn, .inl (cI, 3, .inl cn)), (q5ig, .inl (cI, 120, .inl ig)), (q5ik, .inl (cZ, 2, .inl ik))] sz) := by
  refine kMi (own := RX5) (ty := .int) rfl (by decide) rfl ?_ (Nat.le_of_ble_eq_true rfl)
  intro p e s m args below meth c Q A CF hK hN hA hP hD hret ls hl
  have hS : va_S A s.heap s.heap [] := va_S.rf
  obtain ⟨hx, hb, hml, hown, hts⟩ := id CF
  have hl : lv_has ls 7 [(0, .ref q5)] := hl
  unfold m_X5_goRounds at hs
  refine lv_aload_n hx hb dX5_goRounds_0 rfl (lv_at hl 0 rfl) ?_
  obtain ⟨nw_1, hc_2, hs⟩ := ob1_e hs
  refine kcv (wr := []) (ws' := [(q5, .inr (5, [.ref q5bk, .ref q5nw, .ref q5to, .int th, .ref q5ne, .int si, .ref q5st, .int sn, .ref q5pd, .int re, .int ac, .int fa, .int fw, .ref q5cn, .ref q5ig, .ref q5ik])), (q5bk, .inl (cI, 15, .inl bk)), (q5nw, .inl (cI, 15, .inl nw_1)), (q5to, .inl (cI, 12, .inl to)), (q5ne, .inl (cI, 8, .inl ne)), (q5st, .inl (cI, 16, .inl st)), (q5pd, .inl (cI, 60, .inl pd)), (q5cn, .inl (cI, 3, .inl cn)), (q5ig, .inl (cI, 120, .inl ig)), (q5ik, .inl (cZ, 2, .inl ik))]) (va_runV (As := []) (rest := []) ⟨hx, hb, hml, hown, hts⟩ (k_X5_asNow l dC dI cI cZ cS q5 q5bk q5nw q5to q5ne q5st q5pd q5cn q5ig q5ik s.heap.size th si sn re ac fa fw bk nw to ne st pd cn ig ik nw_1 hc_2) (cwV 0 hts (kGood (kgV mG_379 mG_380 mG_381 mG_332 mG_350)) rfl rfl rfl ⟨rfl, hd_X5_asNow⟩ ⟨Nat.le_of_ble_eq_true rfl, Nat.le_of_ble_eq_true rfl⟩) (kpV hK hN (hP.sub (ws' := [(q5, .inr (5, [.ref q5bk, .ref q5nw, .ref q5to, .int th, .ref q5ne, .int si, .ref q5st, .int sn, .ref q5pd, .int re, .int ac, .int fa, .int fw, .ref q5cn, .ref q5ig, .ref q5ik])), (q5bk, .inl (cI, 15, .inl bk)), (q5nw, .inl (cI, 15, .inl nw)), (q5to, .inl (cI, 12, .inl to)), (q5ne, .inl (cI, 8, .inl ne)), (q5st, .inl (cI, 16, .inl st)), (q5pd, .inl (cI, 60, .inl pd)), (q5cn, .inl (cI, 3, .inl cn)), (q5ig, .inl (cI, 120, .inl ig)), (q5ik, .inl (cZ, 2, .inl ik))]) [0, 1, 2, 3, 4, 5, 6, 7, 8, 9] rfl) (hD.sub (ws' := [(q5, .inr (5, [.ref q5bk, .ref q5nw, .ref q5to, .int th, .ref q5ne, .int si, .ref q5st, .int sn, .ref q5pd, .int re, .int ac, .int fa, .int fw, .ref q5cn, .ref q5ig, .ref q5ik])), (q5bk, .inl (cI, 15, .inl bk)), (q5nw, .inl (cI, 15, .inl nw)), (q5to, .inl (cI, 12, .inl to)), (q5ne, .inl (cI, 8, .inl ne)), (q5st, .inl (cI, 16, .inl st)), (q5pd, .inl (cI, 60, .inl pd)), (q5cn, .inl (cI, 3, .inl cn)), (q5ig, .inl (cI, 120, .inl ig)), (q5ik, .inl (cZ, 2, .inl ik))]) [0, 1, 2, 3, 4, 5, 6, 7, 8, 9] rfl rfl) rfl rfl rfl) rfl rfl hl.1 rfl (lv_room (Nat.le_of_ble_eq_true rfl)) dX5_goRounds_1 ⟨Nat.zero_le _, Nat.zero_le _⟩) hP hD hS hA [0, 1, 2, 3, 4, 5, 6, 7, 8, 9] [] [0, 1, 2, 3, 4, 5, 6, 7, 8, 9] rfl rfl rfl (by decide) rfl rfl (fun H locs hP hD hS => ?_)
  refine lv_aload_n hx hb dX5_goRounds_4 rfl (lv_at hl 0 rfl) ?_
  refine lv_iconst (v := 0) hx hb dX5_goRounds_5 (by decide) ?_
  refine va_put (D := (dC, dI)) (ci := 5) (v := .int (0 : Int32)) (ty := .int) (C := RX5) (T := TX5) (N := 16) hx hb hts (fun w h => kg1 (iG_5 w h)) tyX5 tyX5_ok nmX5 hown hK hP hD hS 0 rfl rfl 10 (by decide) (hts _ (kg1 mG_375)) (fun _ h9 => h9) rfl rfl rfl rfl (Nat.le_of_ble_eq_true rfl) dX5_goRounds_6 (fun H locs hP hD hS => ?_)
  have hP : va_P (dC, dI) vwCl [(q5, .inr (5, [.ref q5bk, .ref q5nw, .ref q5to, .int th, .ref q5ne, .int si, .ref q5st, .int sn, .ref q5pd, .int re, .int (0 : Int32), .int fa, .int fw, .ref q5cn, .ref q5ig, .ref q5ik])), (q5bk, .inl (cI, 15, .inl bk)), (q5nw, .inl (cI, 15, .inl nw_1)), (q5to, .inl (cI, 12, .inl to)), (q5ne, .inl (cI, 8, .inl ne)), (q5st, .inl (cI, 16, .inl st)), (q5pd, .inl (cI, 60, .inl pd)), (q5cn, .inl (cI, 3, .inl cn)), (q5ig, .inl (cI, 120, .inl ig)), (q5ik, .inl (cZ, 2, .inl ik))] H := hP
  have hD : va_D A [(q5, .inr (5, [.ref q5bk, .ref q5nw, .ref q5to, .int th, .ref q5ne, .int si, .ref q5st, .int sn, .ref q5pd, .int re, .int (0 : Int32), .int fa, .int fw, .ref q5cn, .ref q5ig, .ref q5ik])), (q5bk, .inl (cI, 15, .inl bk)), (q5nw, .inl (cI, 15, .inl nw_1)), (q5to, .inl (cI, 12, .inl to)), (q5ne, .inl (cI, 8, .inl ne)), (q5st, .inl (cI, 16, .inl st)), (q5pd, .inl (cI, 60, .inl pd)), (q5cn, .inl (cI, 3, .inl cn)), (q5ig, .inl (cI, 120, .inl ig)), (q5ik, .inl (cZ, 2, .inl ik))] := hD
  refine lv_aload_n hx hb dX5_goRounds_9 rfl (lv_at hl 0 rfl) ?_
  refine lv_bipush (v := -6) hx hb dX5_goRounds_10 (by decide) ?_
  refine va_put (D := (dC, dI)) (ci := 5) (v := .int (-6 : Int32)) (ty := .int) (C := RX5) (T := TX5) (N := 16) hx hb hts (fun w h => kg1 (iG_5 w h)) tyX5 tyX5_ok nmX5 hown hK hP hD hS 0 rfl rfl 11 (by decide) (hts _ (kg1 mG_376)) (fun _ h9 => h9) rfl rfl rfl rfl (Nat.le_of_ble_eq_true rfl) dX5_goRounds_12 (fun H locs hP hD hS => ?_)
  have hP : va_P (dC, dI) vwCl [(q5, .inr (5, [.ref q5bk, .ref q5nw, .ref q5to, .int th, .ref q5ne, .int si, .ref q5st, .int sn, .ref q5pd, .int re, .int (0 : Int32), .int (-6 : Int32), .int fw, .ref q5cn, .ref q5ig, .ref q5ik])), (q5bk, .inl (cI, 15, .inl bk)), (q5nw, .inl (cI, 15, .inl nw_1)), (q5to, .inl (cI, 12, .inl to)), (q5ne, .inl (cI, 8, .inl ne)), (q5st, .inl (cI, 16, .inl st)), (q5pd, .inl (cI, 60, .inl pd)), (q5cn, .inl (cI, 3, .inl cn)), (q5ig, .inl (cI, 120, .inl ig)), (q5ik, .inl (cZ, 2, .inl ik))] H := hP
  have hD : va_D A [(q5, .inr (5, [.ref q5bk, .ref q5nw, .ref q5to, .int th, .ref q5ne, .int si, .ref q5st, .int sn, .ref q5pd, .int re, .int (0 : Int32), .int (-6 : Int32), .int fw, .ref q5cn, .ref q5ig, .ref q5ik])), (q5bk, .inl (cI, 15, .inl bk)), (q5nw, .inl (cI, 15, .inl nw_1)), (q5to, .inl (cI, 12, .inl to)), (q5ne, .inl (cI, 8, .inl ne)), (q5st, .inl (cI, 16, .inl st)), (q5pd, .inl (cI, 60, .inl pd)), (q5cn, .inl (cI, 3, .inl cn)), (q5ig, .inl (cI, 120, .inl ig)), (q5ik, .inl (cZ, 2, .inl ik))] := hD
  refine lv_aload_n hx hb dX5_goRounds_15 rfl (lv_at hl 0 rfl) ?_
  refine lv_bipush (v := -6) hx hb dX5_goRounds_16 (by decide) ?_
  refine va_put (D := (dC, dI)) (ci := 5) (v := .int (-6 : Int32)) (ty := .int) (C := RX5) (T := TX5) (N := 16) hx hb hts (fun w h => kg1 (iG_5 w h)) tyX5 tyX5_ok nmX5 hown hK hP hD hS 0 rfl rfl 12 (by decide) (hts _ (kg1 mG_377)) (fun _ h9 => h9) rfl rfl rfl rfl (Nat.le_of_ble_eq_true rfl) dX5_goRounds_18 (fun H locs hP hD hS => ?_)
  have hP : va_P (dC, dI) vwCl [(q5, .inr (5, [.ref q5bk, .ref q5nw, .ref q5to, .int th, .ref q5ne, .int si, .ref q5st, .int sn, .ref q5pd, .int re, .int (0 : Int32), .int (-6 : Int32), .int (-6 : Int32), .ref q5cn, .ref q5ig, .ref q5ik])), (q5bk, .inl (cI, 15, .inl bk)), (q5nw, .inl (cI, 15, .inl nw_1)), (q5to, .inl (cI, 12, .inl to)), (q5ne, .inl (cI, 8, .inl ne)), (q5st, .inl (cI, 16, .inl st)), (q5pd, .inl (cI, 60, .inl pd)), (q5cn, .inl (cI, 3, .inl cn)), (q5ig, .inl (cI, 120, .inl ig)), (q5ik, .inl (cZ, 2, .inl ik))] H := hP
  have hD : va_D A [(q5, .inr (5, [.ref q5bk, .ref q5nw, .ref q5to, .int th, .ref q5ne, .int si, .ref q5st, .int sn, .ref q5pd, .int re, .int (0 : Int32), .int (-6 : Int32), .int (-6 : Int32), .ref q5cn, .ref q5ig, .ref q5ik])), (q5bk, .inl (cI, 15, .inl bk)), (q5nw, .inl (cI, 15, .inl nw_1)), (q5to, .inl (cI, 12, .inl to)), (q5ne, .inl (cI, 8, .inl ne)), (q5st, .inl (cI, 16, .inl st)), (q5pd, .inl (cI, 60, .inl pd)), (q5cn, .inl (cI, 3, .inl cn)), (q5ig, .inl (cI, 120, .inl ig)), (q5ik, .inl (cZ, 2, .inl ik))] := hD
  refine lv_iconst (v := 0) hx hb dX5_goRounds_21 (by decide) ?_
  refine lv_istore_n (lv' := [(1, .int (0 : Int32)), (0, .ref q5)]) hx hb dX5_goRounds_22 rfl hl (by decide) rfl (fun ls hl => ?_)
  have hL_23 : ∀ (n : Nat) (v1 : Int32) (re : Int32) (ac : Int32) (fa : Int32) (fw : Int32) (nw : Ar) (H : Heap) (locs : List Loc) (ls : Array Slot), va_P (dC, dI) vwCl [(q5, .inr (5, [.ref q5bk, .ref q5nw, .ref q5to, .int th, .ref q5ne, .int si, .ref q5st, .int sn, .ref q5pd, .int re, .int ac, .int fa, .int fw, .ref q5cn, .ref q5ig, .ref q5ik])), (q5bk, .inl (cI, 15, .inl bk)), (q5nw, .inl (cI, 15, .inl nw)), (q5to, .inl (cI, 12, .inl to)), (q5ne, .inl (cI, 8, .inl ne)), (q5st, .inl (cI, 16, .inl st)), (q5pd, .inl (cI, 60, .inl pd)), (q5cn, .inl (cI, 3, .inl cn)), (q5ig, .inl (cI, 120, .inl ig)), (q5ik, .inl (cZ, 2, .inl ik))] H → va_D A [(q5, .inr (5, [.ref q5bk, .ref q5nw, .ref q5to, .int th, .ref q5ne, .int si, .ref q5st, .int sn, .ref q5pd, .int re, .int ac, .int fa, .int fw, .ref q5cn, .ref q5ig, .ref q5ik])), (q5bk, .inl (cI, 15, .inl bk)), (q5nw, .inl (cI, 15, .inl nw)), (q5to, .inl (cI, 12, .inl to)), (q5ne, .inl (cI, 8, .inl ne)), (q5st, .inl (cI, 16, .inl st)), (q5pd, .inl (cI, 60, .inl pd)), (q5cn, .inl (cI, 3, .inl cn)), (q5ig, .inl (cI, 120, .inl ig)), (q5ik, .inl (cZ, 2, .inl ik))] → va_S A s.heap H locs → lv_has ls 7 [(0, .ref q5), (1, .int v1)] → L_X5_goRounds_23 th sn to pd n v1 re ac fa fw nw = some (r0, re_o, ac_o, fa_o, fw_o, nw_o) → W p l e rm_X5_goRounds s m args below meth c H locs 0 0 Q (F0 m 23 ls []) := by
    intro n
    induction n with
    | zero =>
      intro v1 re ac fa fw nw H locs ls hP hD hS hl hs
      replace hs : (none : Option (Int32 × Int32 × Int32 × Int32 × Int32 × Ar)) = some (r0, re_o, ac_o, fa_o, fw_o, nw_o) := hs
      cases hs
    | succ n_23 ih_23 =>
      intro v1 re ac fa fw nw H locs ls hP hD hS hl hs
      replace hs : b_X5_goRounds_23  (L_X5_goRounds_23 th sn to pd n_23) th sn to pd v1 re ac fa fw nw = some (r0, re_o, ac_o, fa_o, fw_o, nw_o) := hs
      unfold b_X5_goRounds_23 at hs
      refine lv_iload_n hx hb dX5_goRounds_23 rfl (lv_at hl 1 rfl) ?_
      refine lv_aload_n hx hb dX5_goRounds_24 rfl (lv_at hl 0 rfl) ?_
      refine va_get (D := (dC, dI)) (ci := 5) (v := .int sn) (C := RX5) (T := TX5) (N := 16) hx hb hts (fun w h => kg1 (iG_5 w h)) hown hK hP 0 rfl rfl 7 (by decide) (hts _ (kg1 mG_343)) (fun _ h9 => h9) rfl dX5_goRounds_25 ?_
      refine lv_icmp_ge (tgt := 176) hx hb dX5_goRounds_28 (by decide) (fun c_3 => ?_) (fun c_3 => ?_)
      · replace hs := if_p c_3 hs
        refine lv_bipush (v := -6) hx hb dX5_goRounds_176 (by decide) ?_
        cases hs
        exact hret _ _ _ _ hP hD hS (vp_nar_int _) dX5_goRounds_178
      · replace hs := if_n c_3 hs
        refine lv_aload_n hx hb dX5_goRounds_31 rfl (lv_at hl 0 rfl) ?_
        refine va_get (D := (dC, dI)) (ci := 5) (v := .ref q5pd) (C := RX5) (T := TX5) (N := 16) hx hb hts (fun w h => kg1 (iG_5 w h)) hown hK hP 0 rfl rfl 8 (by decide) (hts _ (kg1 mG_321)) (fun _ h9 => h9) rfl dX5_goRounds_32 ?_
        refine lv_iload_n hx hb dX5_goRounds_35 rfl (lv_at hl 1 rfl) ?_
        obtain ⟨hg_4, hs⟩ := gd_e hs
        refine kald hx hb hK hP 6 0 rfl rfl (j := (Int32.toNatClampNeg v1)) rfl (inb_e hg_4) dX5_goRounds_36 ?_
        refine lv_istore_n (lv' := [(2, .int (pd (Int32.toNatClampNeg v1))), (0, .ref q5), (1, .int v1)]) hx hb dX5_goRounds_37 rfl hl (by decide) rfl (fun ls hl => ?_)
        refine lv_iconst (v := 0) hx hb dX5_goRounds_38 (by decide) ?_
        refine lv_istore_n (lv' := [(3, .int (0 : Int32)), (2, .int (pd (Int32.toNatClampNeg v1))), (0, .ref q5), (1, .int v1)]) hx hb dX5_goRounds_39 rfl hl (by decide) rfl (fun ls hl => ?_)
        refine lv_iload_n hx hb dX5_goRounds_40 rfl (lv_at hl 1 rfl) ?_
        refine lv_bipush (v := 104) hx hb dX5_goRounds_41 (by decide) ?_
        have hJ_59 : ∀ (v1 : Int32) (v2 : Int32) (v3 : Int32) (re : Int32) (ac : Int32) (fa : Int32) (fw : Int32) (nw : Ar) (H : Heap) (locs : List Loc) (ls : Array Slot), va_P (dC, dI) vwCl [(q5, .inr (5, [.ref q5bk, .ref q5nw, .ref q5to, .int th, .ref q5ne, .int si, .ref q5st, .int sn, .ref q5pd, .int re, .int ac, .int fa, .int fw, .ref q5cn, .ref q5ig, .ref q5ik])), (q5bk, .inl (cI, 15, .inl bk)), (q5nw, .inl (cI, 15, .inl nw)), (q5to, .inl (cI, 12, .inl to)), (q5ne, .inl (cI, 8, .inl ne)), (q5st, .inl (cI, 16, .inl st)), (q5pd, .inl (cI, 60, .inl pd)), (q5cn, .inl (cI, 3, .inl cn)), (q5ig, .inl (cI, 120, .inl ig)), (q5ik, .inl (cZ, 2, .inl ik))] H → va_D A [(q5, .inr (5, [.ref q5bk, .ref q5nw, .ref q5to, .int th, .ref q5ne, .int si, .ref q5st, .int sn, .ref q5pd, .int re, .int ac, .int fa, .int fw, .ref q5cn, .ref q5ig, .ref q5ik])), (q5bk, .inl (cI, 15, .inl bk)), (q5nw, .inl (cI, 15, .inl nw)), (q5to, .inl (cI, 12, .inl to)), (q5ne, .inl (cI, 8, .inl ne)), (q5st, .inl (cI, 16, .inl st)), (q5pd, .inl (cI, 60, .inl pd)), (q5cn, .inl (cI, 3, .inl cn)), (q5ig, .inl (cI, 120, .inl ig)), (q5ik, .inl (cZ, 2, .inl ik))] → va_S A s.heap H locs → lv_has ls 7 [(0, .ref q5), (1, .int v1), (2, .int v2), (3, .int v3)] → j_X5_goRounds_59 (L_X5_goRounds_23 th sn to pd n_23) v1 v2 v3 th ac fa fw nw to = some (r0, re_o, ac_o, fa_o, fw_o, nw_o) → W p l e rm_X5_goRounds s m args below meth c H locs 0 0 Q (F0 m 59 ls []) := by
          intro v1 v2 v3 re ac fa fw nw H locs ls hP hD hS hl hs
          unfold j_X5_goRounds_59 at hs
          refine lv_aload_n hx hb dX5_goRounds_59 rfl (lv_at hl 0 rfl) ?_
          refine lv_aload_n hx hb dX5_goRounds_60 rfl (lv_at hl 0 rfl) ?_
          refine lv_iload_n hx hb dX5_goRounds_61 rfl (lv_at hl 2 rfl) ?_
          refine kci (wr := []) (ws' := [(q5, .inr (5, [.ref q5bk, .ref q5nw, .ref q5to, .int th, .ref q5ne, .int si, .ref q5st, .int sn, .ref q5pd, .int re, .int ac, .int fa, .int fw, .ref q5cn, .ref q5ig, .ref q5ik])), (q5bk, .inl (cI, 15, .inl bk)), (q5nw, .inl (cI, 15, .inl nw)), (q5to, .inl (cI, 12, .inl to)), (q5ne, .inl (cI, 8, .inl ne)), (q5st, .inl (cI, 16, .inl st)), (q5pd, .inl (cI, 60, .inl pd)), (q5cn, .inl (cI, 3, .inl cn)), (q5ig, .inl (cI, 120, .inl ig)), (q5ik, .inl (cZ, 2, .inl ik))]) (va_runV (As := [.int v2]) (rest := [.ref q5]) ⟨hx, hb, hml, hown, hts⟩ (k_X5_whyNot l dC dI cI cZ cS q5 q5bk q5nw q5to q5ne q5st q5pd q5cn q5ig q5ik H.size th si sn re ac fa fw bk nw to ne st pd cn ig ik v2 _ rfl) (cwV 1 hts (kGood (kgV mG_382 mG_383 mG_384 mG_332 mG_363)) rfl rfl rfl ⟨rfl, hd_X5_whyNot⟩ ⟨Nat.le_of_ble_eq_true rfl, Nat.le_of_ble_eq_true rfl⟩) (kpV hK hN (hP.sub (ws' := [(q5, .inr (5, [.ref q5bk, .ref q5nw, .ref q5to, .int th, .ref q5ne, .int si, .ref q5st, .int sn, .ref q5pd, .int re, .int ac, .int fa, .int fw, .ref q5cn, .ref q5ig, .ref q5ik])), (q5bk, .inl (cI, 15, .inl bk)), (q5nw, .inl (cI, 15, .inl nw)), (q5to, .inl (cI, 12, .inl to)), (q5ne, .inl (cI, 8, .inl ne)), (q5st, .inl (cI, 16, .inl st)), (q5pd, .inl (cI, 60, .inl pd)), (q5cn, .inl (cI, 3, .inl cn)), (q5ig, .inl (cI, 120, .inl ig)), (q5ik, .inl (cZ, 2, .inl ik))]) [0, 1, 2, 3, 4, 5, 6, 7, 8, 9] rfl) (hD.sub (ws' := [(q5, .inr (5, [.ref q5bk, .ref q5nw, .ref q5to, .int th, .ref q5ne, .int si, .ref q5st, .int sn, .ref q5pd, .int re, .int ac, .int fa, .int fw, .ref q5cn, .ref q5ig, .ref q5ik])), (q5bk, .inl (cI, 15, .inl bk)), (q5nw, .inl (cI, 15, .inl nw)), (q5to, .inl (cI, 12, .inl to)), (q5ne, .inl (cI, 8, .inl ne)), (q5st, .inl (cI, 16, .inl st)), (q5pd, .inl (cI, 60, .inl pd)), (q5cn, .inl (cI, 3, .inl cn)), (q5ig, .inl (cI, 120, .inl ig)), (q5ik, .inl (cZ, 2, .inl ik))]) [0, 1, 2, 3, 4, 5, 6, 7, 8, 9] rfl rfl) rfl rfl rfl) rfl rfl hl.1 rfl (lv_room (Nat.le_of_ble_eq_true rfl)) dX5_goRounds_62 ⟨Nat.zero_le _, Nat.zero_le _⟩) hP hD hS hA [0, 1, 2, 3, 4, 5, 6, 7, 8, 9] [] [0, 1, 2, 3, 4, 5, 6, 7, 8, 9] rfl rfl rfl (by decide) rfl rfl (fun H locs hP hD hS => ?_)
          refine va_put (D := (dC, dI)) (ci := 5) (v := .int (m_X5_whyNot v2 nw)) (ty := .int) (C := RX5) (T := TX5) (N := 16) hx hb hts (fun w h => kg1 (iG_5 w h)) tyX5 tyX5_ok nmX5 hown hK hP hD hS 0 rfl rfl 9 (by decide) (hts _ (kg1 mG_378)) (fun _ h9 => h9) rfl rfl rfl rfl (Nat.le_of_ble_eq_true rfl) dX5_goRounds_65 (fun H locs hP hD hS => ?_)
          have hP : va_P (dC, dI) vwCl [(q5, .inr (5, [.ref q5bk, .ref q5nw, .ref q5to, .int th, .ref q5ne, .int si, .ref q5st, .int sn, .ref q5pd, .int (m_X5_whyNot v2 nw), .int ac, .int fa, .int fw, .ref q5cn, .ref q5ig, .ref q5ik])), (q5bk, .inl (cI, 15, .inl bk)), (q5nw, .inl (cI, 15, .inl nw)), (q5to, .inl (cI, 12, .inl to)), (q5ne, .inl (cI, 8, .inl ne)), (q5st, .inl (cI, 16, .inl st)), (q5pd, .inl (cI, 60, .inl pd)), (q5cn, .inl (cI, 3, .inl cn)), (q5ig, .inl (cI, 120, .inl ig)), (q5ik, .inl (cZ, 2, .inl ik))] H := hP
          have hD : va_D A [(q5, .inr (5, [.ref q5bk, .ref q5nw, .ref q5to, .int th, .ref q5ne, .int si, .ref q5st, .int sn, .ref q5pd, .int (m_X5_whyNot v2 nw), .int ac, .int fa, .int fw, .ref q5cn, .ref q5ig, .ref q5ik])), (q5bk, .inl (cI, 15, .inl bk)), (q5nw, .inl (cI, 15, .inl nw)), (q5to, .inl (cI, 12, .inl to)), (q5ne, .inl (cI, 8, .inl ne)), (q5st, .inl (cI, 16, .inl st)), (q5pd, .inl (cI, 60, .inl pd)), (q5cn, .inl (cI, 3, .inl cn)), (q5ig, .inl (cI, 120, .inl ig)), (q5ik, .inl (cZ, 2, .inl ik))] := hD
          refine lv_aload_n hx hb dX5_goRounds_68 rfl (lv_at hl 0 rfl) ?_
          refine va_get (D := (dC, dI)) (ci := 5) (v := .int (m_X5_whyNot v2 nw)) (C := RX5) (T := TX5) (N := 16) hx hb hts (fun w h => kg1 (iG_5 w h)) hown hK hP 0 rfl rfl 9 (by decide) (hts _ (kg1 mG_378)) (fun _ h9 => h9) rfl dX5_goRounds_69 ?_
          refine lv_if_le (tgt := 80) hx hb dX5_goRounds_72 (by decide) (fun c_7 => ?_) (fun c_7 => ?_)
          · replace hs := if_p c_7 hs
            refine lv_aload_n hx hb dX5_goRounds_80 rfl (lv_at hl 0 rfl) ?_
            obtain ⟨r_8, hc_9, hs⟩ := ob1_e hs
            refine kci (wr := []) (ws' := [(q5, .inr (5, [.ref q5bk, .ref q5nw, .ref q5to, .int th, .ref q5ne, .int si, .ref q5st, .int sn, .ref q5pd, .int (m_X5_whyNot v2 nw), .int ac, .int fa, .int fw, .ref q5cn, .ref q5ig, .ref q5ik])), (q5bk, .inl (cI, 15, .inl bk)), (q5nw, .inl (cI, 15, .inl nw)), (q5to, .inl (cI, 12, .inl to)), (q5ne, .inl (cI, 8, .inl ne)), (q5st, .inl (cI, 16, .inl st)), (q5pd, .inl (cI, 60, .inl pd)), (q5cn, .inl (cI, 3, .inl cn)), (q5ig, .inl (cI, 120, .inl ig)), (q5ik, .inl (cZ, 2, .inl ik))]) (va_runV (As := []) (rest := []) ⟨hx, hb, hml, hown, hts⟩ (k_X5_downSet l dC dI cI cZ cS q5 q5bk q5nw q5to q5ne q5st q5pd q5cn q5ig q5ik H.size th si sn (m_X5_whyNot v2 nw) ac fa fw bk nw to ne st pd cn ig ik r_8 hc_9) (cwV 0 hts (kGood (kgV mG_385 mG_386 mG_387 mG_332 mG_374)) rfl rfl rfl ⟨rfl, hd_X5_downSet⟩ ⟨Nat.le_of_ble_eq_true rfl, Nat.le_of_ble_eq_true rfl⟩) (kpV hK hN (hP.sub (ws' := [(q5, .inr (5, [.ref q5bk, .ref q5nw, .ref q5to, .int th, .ref q5ne, .int si, .ref q5st, .int sn, .ref q5pd, .int (m_X5_whyNot v2 nw), .int ac, .int fa, .int fw, .ref q5cn, .ref q5ig, .ref q5ik])), (q5bk, .inl (cI, 15, .inl bk)), (q5nw, .inl (cI, 15, .inl nw)), (q5to, .inl (cI, 12, .inl to)), (q5ne, .inl (cI, 8, .inl ne)), (q5st, .inl (cI, 16, .inl st)), (q5pd, .inl (cI, 60, .inl pd)), (q5cn, .inl (cI, 3, .inl cn)), (q5ig, .inl (cI, 120, .inl ig)), (q5ik, .inl (cZ, 2, .inl ik))]) [0, 1, 2, 3, 4, 5, 6, 7, 8, 9] rfl) (hD.sub (ws' := [(q5, .inr (5, [.ref q5bk, .ref q5nw, .ref q5to, .int th, .ref q5ne, .int si, .ref q5st, .int sn, .ref q5pd, .int (m_X5_whyNot v2 nw), .int ac, .int fa, .int fw, .ref q5cn, .ref q5ig, .ref q5ik])), (q5bk, .inl (cI, 15, .inl bk)), (q5nw, .inl (cI, 15, .inl nw)), (q5to, .inl (cI, 12, .inl to)), (q5ne, .inl (cI, 8, .inl ne)), (q5st, .inl (cI, 16, .inl st)), (q5pd, .inl (cI, 60, .inl pd)), (q5cn, .inl (cI, 3, .inl cn)), (q5ig, .inl (cI, 120, .inl ig)), (q5ik, .inl (cZ, 2, .inl ik))]) [0, 1, 2, 3, 4, 5, 6, 7, 8, 9] rfl rfl) rfl rfl rfl) rfl rfl hl.1 rfl (lv_room (Nat.le_of_ble_eq_true rfl)) dX5_goRounds_81 ⟨Nat.zero_le _, Nat.zero_le _⟩) hP hD hS hA [0, 1, 2, 3, 4, 5, 6, 7, 8, 9] [] [0, 1, 2, 3, 4, 5, 6, 7, 8, 9] rfl rfl rfl (by decide) rfl rfl (fun H locs hP hD hS => ?_)
            refine lv_istore (lv' := [(4, .int r_8), (0, .ref q5), (1, .int v1), (2, .int v2), (3, .int v3)]) hx hb dX5_goRounds_84 hl (by decide) rfl (fun ls hl => ?_)
            refine lv_aload_n hx hb dX5_goRounds_86 rfl (lv_at hl 1 rfl) ?_
            refine lv_iload_n hx hb dX5_goRounds_87 rfl (lv_at hl 3 rfl) ?_
            refine lv_iload_n hx hb dX5_goRounds_88 rfl (lv_at hl 4 rfl) ?_
            obtain ⟨nw_10, hc_11, hs⟩ := ob1_e hs
            refine kcv (wr := []) (ws' := [(q5, .inr (5, [.ref q5bk, .ref q5nw, .ref q5to, .int th, .ref q5ne, .int si, .ref q5st, .int sn, .ref q5pd, .int (m_X5_whyNot v2 nw), .int ac, .int fa, .int fw, .ref q5cn, .ref q5ig, .ref q5ik])), (q5bk, .inl (cI, 15, .inl bk)), (q5nw, .inl (cI, 15, .inl nw_10)), (q5to, .inl (cI, 12, .inl to)), (q5ne, .inl (cI, 8, .inl ne)), (q5st, .inl (cI, 16, .inl st)), (q5pd, .inl (cI, 60, .inl pd)), (q5cn, .inl (cI, 3, .inl cn)), (q5ig, .inl (cI, 120, .inl ig)), (q5ik, .inl (cZ, 2, .inl ik))]) (va_runV (As := [.int v2, .int v3]) (rest := []) ⟨hx, hb, hml, hown, hts⟩ (k_X5_act l dC dI cI cZ cS q5 q5bk q5nw q5to q5ne q5st q5pd q5cn q5ig q5ik H.size th si sn (m_X5_whyNot v2 nw) ac fa fw bk nw to ne st pd cn ig ik v2 v3 nw_10 hc_11) (cwV 2 hts (kGood (kgV mG_388 mG_389 mG_390 mG_332 mG_373)) rfl rfl rfl ⟨rfl, hd_X5_act⟩ ⟨Nat.le_of_ble_eq_true rfl, Nat.le_of_ble_eq_true rfl⟩) (kpV hK hN (hP.sub (ws' := [(q5, .inr (5, [.ref q5bk, .ref q5nw, .ref q5to, .int th, .ref q5ne, .int si, .ref q5st, .int sn, .ref q5pd, .int (m_X5_whyNot v2 nw), .int ac, .int fa, .int fw, .ref q5cn, .ref q5ig, .ref q5ik])), (q5bk, .inl (cI, 15, .inl bk)), (q5nw, .inl (cI, 15, .inl nw)), (q5to, .inl (cI, 12, .inl to)), (q5ne, .inl (cI, 8, .inl ne)), (q5st, .inl (cI, 16, .inl st)), (q5pd, .inl (cI, 60, .inl pd)), (q5cn, .inl (cI, 3, .inl cn)), (q5ig, .inl (cI, 120, .inl ig)), (q5ik, .inl (cZ, 2, .inl ik))]) [0, 1, 2, 3, 4, 5, 6, 7, 8, 9] rfl) (hD.sub (ws' := [(q5, .inr (5, [.ref q5bk, .ref q5nw, .ref q5to, .int th, .ref q5ne, .int si, .ref q5st, .int sn, .ref q5pd, .int (m_X5_whyNot v2 nw), .int ac, .int fa, .int fw, .ref q5cn, .ref q5ig, .ref q5ik])), (q5bk, .inl (cI, 15, .inl bk)), (q5nw, .inl (cI, 15, .inl nw)), (q5to, .inl (cI, 12, .inl to)), (q5ne, .inl (cI, 8, .inl ne)), (q5st, .inl (cI, 16, .inl st)), (q5pd, .inl (cI, 60, .inl pd)), (q5cn, .inl (cI, 3, .inl cn)), (q5ig, .inl (cI, 120, .inl ig)), (q5ik, .inl (cZ, 2, .inl ik))]) [0, 1, 2, 3, 4, 5, 6, 7, 8, 9] rfl rfl) rfl rfl rfl) rfl rfl hl.1 rfl (lv_room (Nat.le_of_ble_eq_true rfl)) dX5_goRounds_89 ⟨Nat.zero_le _, Nat.zero_le _⟩) hP hD hS hA [0, 1, 2, 3, 4, 5, 6, 7, 8, 9] [] [0, 1, 2, 3, 4, 5, 6, 7, 8, 9] rfl rfl rfl (by decide) rfl rfl (fun H locs hP hD hS => ?_)
            refine lv_aload_n hx hb dX5_goRounds_92 rfl (lv_at hl 1 rfl) ?_
            obtain ⟨r_12, hc_13, hs⟩ := ob1_e hs
            refine kci (wr := []) (ws' := [(q5, .inr (5, [.ref q5bk, .ref q5nw, .ref q5to, .int th, .ref q5ne, .int si, .ref q5st, .int sn, .ref q5pd, .int (m_X5_whyNot v2 nw), .int ac, .int fa, .int fw, .ref q5cn, .ref q5ig, .ref q5ik])), (q5bk, .inl (cI, 15, .inl bk)), (q5nw, .inl (cI, 15, .inl nw_10)), (q5to, .inl (cI, 12, .inl to)), (q5ne, .inl (cI, 8, .inl ne)), (q5st, .inl (cI, 16, .inl st)), (q5pd, .inl (cI, 60, .inl pd)), (q5cn, .inl (cI, 3, .inl cn)), (q5ig, .inl (cI, 120, .inl ig)), (q5ik, .inl (cZ, 2, .inl ik))]) (va_runV (As := []) (rest := []) ⟨hx, hb, hml, hown, hts⟩ (k_X5_downSet l dC dI cI cZ cS q5 q5bk q5nw q5to q5ne q5st q5pd q5cn q5ig q5ik H.size th si sn (m_X5_whyNot v2 nw) ac fa fw bk nw_10 to ne st pd cn ig ik r_12 hc_13) (cwV 0 hts (kGood (kgV mG_385 mG_386 mG_387 mG_332 mG_374)) rfl rfl rfl ⟨rfl, hd_X5_downSet⟩ ⟨Nat.le_of_ble_eq_true rfl, Nat.le_of_ble_eq_true rfl⟩) (kpV hK hN (hP.sub (ws' := [(q5, .inr (5, [.ref q5bk, .ref q5nw, .ref q5to, .int th, .ref q5ne, .int si, .ref q5st, .int sn, .ref q5pd, .int (m_X5_whyNot v2 nw), .int ac, .int fa, .int fw, .ref q5cn, .ref q5ig, .ref q5ik])), (q5bk, .inl (cI, 15, .inl bk)), (q5nw, .inl (cI, 15, .inl nw_10)), (q5to, .inl (cI, 12, .inl to)), (q5ne, .inl (cI, 8, .inl ne)), (q5st, .inl (cI, 16, .inl st)), (q5pd, .inl (cI, 60, .inl pd)), (q5cn, .inl (cI, 3, .inl cn)), (q5ig, .inl (cI, 120, .inl ig)), (q5ik, .inl (cZ, 2, .inl ik))]) [0, 1, 2, 3, 4, 5, 6, 7, 8, 9] rfl) (hD.sub (ws' := [(q5, .inr (5, [.ref q5bk, .ref q5nw, .ref q5to, .int th, .ref q5ne, .int si, .ref q5st, .int sn, .ref q5pd, .int (m_X5_whyNot v2 nw), .int ac, .int fa, .int fw, .ref q5cn, .ref q5ig, .ref q5ik])), (q5bk, .inl (cI, 15, .inl bk)), (q5nw, .inl (cI, 15, .inl nw_10)), (q5to, .inl (cI, 12, .inl to)), (q5ne, .inl (cI, 8, .inl ne)), (q5st, .inl (cI, 16, .inl st)), (q5pd, .inl (cI, 60, .inl pd)), (q5cn, .inl (cI, 3, .inl cn)), (q5ig, .inl (cI, 120, .inl ig)), (q5ik, .inl (cZ, 2, .inl ik))]) [0, 1, 2, 3, 4, 5, 6, 7, 8, 9] rfl rfl) rfl rfl rfl) rfl rfl hl.1 rfl (lv_room (Nat.le_of_ble_eq_true rfl)) dX5_goRounds_93 ⟨Nat.zero_le _, Nat.zero_le _⟩) hP hD hS hA [0, 1, 2, 3, 4, 5, 6, 7, 8, 9] [] [0, 1, 2, 3, 4, 5, 6, 7, 8, 9] rfl rfl rfl (by decide) rfl rfl (fun H locs hP hD hS => ?_)
            refine lv_iload hx hb dX5_goRounds_96 (lv_at hl 0 rfl) ?_
            refine lv_iconst (v := -1) hx hb dX5_goRounds_98 (by decide) ?_
            refine lv_ixor hx hb dX5_goRounds_99 ?_
            refine lv_iand hx hb dX5_goRounds_100 ?_
            refine lv_istore (lv' := [(5, .int (r_12 &&& (r_8 ^^^ (-1 : Int32)))), (4, .int r_8), (0, .ref q5), (1, .int v1), (2, .int v2), (3, .int v3)]) hx hb dX5_goRounds_101 hl (by decide) rfl (fun ls hl => ?_)
            refine lv_bipush (v := 11) hx hb dX5_goRounds_103 (by decide) ?_
            refine lv_istore (lv' := [(6, .int (11 : Int32)), (5, .int (r_12 &&& (r_8 ^^^ (-1 : Int32)))), (4, .int r_8), (0, .ref q5), (1, .int v1), (2, .int v2), (3, .int v3)]) hx hb dX5_goRounds_105 hl (by decide) rfl (fun ls hl => ?_)
            have hL_107 : ∀ (n : Nat) (v1 : Int32) (v5 : Int32) (v6 : Int32) (re : Int32) (ac : Int32) (fa : Int32) (fw : Int32) (nw : Ar) (H : Heap) (locs : List Loc) (ls : Array Slot), va_P (dC, dI) vwCl [(q5, .inr (5, [.ref q5bk, .ref q5nw, .ref q5to, .int th, .ref q5ne, .int si, .ref q5st, .int sn, .ref q5pd, .int re, .int ac, .int fa, .int fw, .ref q5cn, .ref q5ig, .ref q5ik])), (q5bk, .inl (cI, 15, .inl bk)), (q5nw, .inl (cI, 15, .inl nw)), (q5to, .inl (cI, 12, .inl to)), (q5ne, .inl (cI, 8, .inl ne)), (q5st, .inl (cI, 16, .inl st)), (q5pd, .inl (cI, 60, .inl pd)), (q5cn, .inl (cI, 3, .inl cn)), (q5ig, .inl (cI, 120, .inl ig)), (q5ik, .inl (cZ, 2, .inl ik))] H → va_D A [(q5, .inr (5, [.ref q5bk, .ref q5nw, .ref q5to, .int th, .ref q5ne, .int si, .ref q5st, .int sn, .ref q5pd, .int re, .int ac, .int fa, .int fw, .ref q5cn, .ref q5ig, .ref q5ik])), (q5bk, .inl (cI, 15, .inl bk)), (q5nw, .inl (cI, 15, .inl nw)), (q5to, .inl (cI, 12, .inl to)), (q5ne, .inl (cI, 8, .inl ne)), (q5st, .inl (cI, 16, .inl st)), (q5pd, .inl (cI, 60, .inl pd)), (q5cn, .inl (cI, 3, .inl cn)), (q5ig, .inl (cI, 120, .inl ig)), (q5ik, .inl (cZ, 2, .inl ik))] → va_S A s.heap H locs → lv_has ls 7 [(0, .ref q5), (1, .int v1), (5, .int v5), (6, .int v6)] → L_X5_goRounds_107 (L_X5_goRounds_23 th sn to pd n_23) v1 v5 re ac nw n v6 fa fw = some (r0, re_o, ac_o, fa_o, fw_o, nw_o) → W p l e rm_X5_goRounds s m args below meth c H locs 0 0 Q (F0 m 107 ls []) := by
              intro n
              induction n with
              | zero =>
                intro v1 v5 v6 re ac fa fw nw H locs ls hP hD hS hl hs
                replace hs : (none : Option (Int32 × Int32 × Int32 × Int32 × Int32 × Ar)) = some (r0, re_o, ac_o, fa_o, fw_o, nw_o) := hs
                cases hs
              | succ n_107 ih_107 =>
                intro v1 v5 v6 re ac fa fw nw H locs ls hP hD hS hl hs
                replace hs : b_X5_goRounds_107 (L_X5_goRounds_23 th sn to pd n_23) (L_X5_goRounds_107 (L_X5_goRounds_23 th sn to pd n_23) v1 v5 re ac nw n_107) v1 v5 re ac nw v6 fa fw = some (r0, re_o, ac_o, fa_o, fw_o, nw_o) := hs
                unfold b_X5_goRounds_107 at hs
                refine lv_iload hx hb dX5_goRounds_107 (lv_at hl 3 rfl) ?_
                have hJ_160 : ∀ (v1 : Int32) (re : Int32) (ac : Int32) (fa : Int32) (fw : Int32) (nw : Ar) (H : Heap) (locs : List Loc) (ls : Array Slot), va_P (dC, dI) vwCl [(q5, .inr (5, [.ref q5bk, .ref q5nw, .ref q5to, .int th, .ref q5ne, .int si, .ref q5st, .int sn, .ref q5pd, .int re, .int ac, .int fa, .int fw, .ref q5cn, .ref q5ig, .ref q5ik])), (q5bk, .inl (cI, 15, .inl bk)), (q5nw, .inl (cI, 15, .inl nw)), (q5to, .inl (cI, 12, .inl to)), (q5ne, .inl (cI, 8, .inl ne)), (q5st, .inl (cI, 16, .inl st)), (q5pd, .inl (cI, 60, .inl pd)), (q5cn, .inl (cI, 3, .inl cn)), (q5ig, .inl (cI, 120, .inl ig)), (q5ik, .inl (cZ, 2, .inl ik))] H → va_D A [(q5, .inr (5, [.ref q5bk, .ref q5nw, .ref q5to, .int th, .ref q5ne, .int si, .ref q5st, .int sn, .ref q5pd, .int re, .int ac, .int fa, .int fw, .ref q5cn, .ref q5ig, .ref q5ik])), (q5bk, .inl (cI, 15, .inl bk)), (q5nw, .inl (cI, 15, .inl nw)), (q5to, .inl (cI, 12, .inl to)), (q5ne, .inl (cI, 8, .inl ne)), (q5st, .inl (cI, 16, .inl st)), (q5pd, .inl (cI, 60, .inl pd)), (q5cn, .inl (cI, 3, .inl cn)), (q5ig, .inl (cI, 120, .inl ig)), (q5ik, .inl (cZ, 2, .inl ik))] → va_S A s.heap H locs → lv_has ls 7 [(0, .ref q5), (1, .int v1)] → j_X5_goRounds_160 (L_X5_goRounds_23 th sn to pd n_23) v1 re ac fa fw nw = some (r0, re_o, ac_o, fa_o, fw_o, nw_o) → W p l e rm_X5_goRounds s m args below meth c H locs 0 0 Q (F0 m 160 ls []) := by
                  intro v1 re ac fa fw nw H locs ls hP hD hS hl hs
                  unfold j_X5_goRounds_160 at hs
                  refine lv_iinc (v := (v1 + 1)) (lv' := [(1, .int (v1 + 1)), (0, .ref q5)]) hx hb dX5_goRounds_160 hl (k := 1) rfl rfl (by decide) rfl (fun ls hl => ?_)
                  refine lv_aload_n hx hb dX5_goRounds_163 rfl (lv_at hl 1 rfl) ?_
                  refine lv_dup hx hb dX5_goRounds_164 rfl ?_
                  refine va_get (D := (dC, dI)) (ci := 5) (v := .int ac) (C := RX5) (T := TX5) (N := 16) hx hb hts (fun w h => kg1 (iG_5 w h)) hown hK hP 0 rfl rfl 10 (by decide) (hts _ (kg1 mG_375)) (fun _ h9 => h9) rfl dX5_goRounds_165 ?_
                  refine lv_iconst (v := 1) hx hb dX5_goRounds_168 (by decide) ?_
                  refine lv_iadd hx hb dX5_goRounds_169 ?_
                  refine va_put (D := (dC, dI)) (ci := 5) (v := .int (ac + (1 : Int32))) (ty := .int) (C := RX5) (T := TX5) (N := 16) hx hb hts (fun w h => kg1 (iG_5 w h)) tyX5 tyX5_ok nmX5 hown hK hP hD hS 0 rfl rfl 10 (by decide) (hts _ (kg1 mG_375)) (fun _ h9 => h9) rfl rfl rfl rfl (Nat.le_of_ble_eq_true rfl) dX5_goRounds_170 (fun H locs hP hD hS => ?_)
                  have hP : va_P (dC, dI) vwCl [(q5, .inr (5, [.ref q5bk, .ref q5nw, .ref q5to, .int th, .ref q5ne, .int si, .ref q5st, .int sn, .ref q5pd, .int re, .int (ac + (1 : Int32)), .int fa, .int fw, .ref q5cn, .ref q5ig, .ref q5ik])), (q5bk, .inl (cI, 15, .inl bk)), (q5nw, .inl (cI, 15, .inl nw)), (q5to, .inl (cI, 12, .inl to)), (q5ne, .inl (cI, 8, .inl ne)), (q5st, .inl (cI, 16, .inl st)), (q5pd, .inl (cI, 60, .inl pd)), (q5cn, .inl (cI, 3, .inl cn)), (q5ig, .inl (cI, 120, .inl ig)), (q5ik, .inl (cZ, 2, .inl ik))] H := hP
                  have hD : va_D A [(q5, .inr (5, [.ref q5bk, .ref q5nw, .ref q5to, .int th, .ref q5ne, .int si, .ref q5st, .int sn, .ref q5pd, .int re, .int (ac + (1 : Int32)), .int fa, .int fw, .ref q5cn, .ref q5ig, .ref q5ik])), (q5bk, .inl (cI, 15, .inl bk)), (q5nw, .inl (cI, 15, .inl nw)), (q5to, .inl (cI, 12, .inl to)), (q5ne, .inl (cI, 8, .inl ne)), (q5st, .inl (cI, 16, .inl st)), (q5pd, .inl (cI, 60, .inl pd)), (q5cn, .inl (cI, 3, .inl cn)), (q5ig, .inl (cI, 120, .inl ig)), (q5ik, .inl (cZ, 2, .inl ik))] := hD
                  refine lv_goto (tgt := 23) hx hb dX5_goRounds_173 (by decide) ?_
                  exact ih_23 (v1 + 1) re (ac + (1 : Int32)) fa fw nw _ _ _ hP hD hS (lv_sub hl [1, 0] rfl) hs
                refine lv_if_lt (tgt := 160) hx hb dX5_goRounds_109 (by decide) (fun c_14 => ?_) (fun c_14 => ?_)
                · replace hs := if_p c_14 hs
                  exact hJ_160 v1 re ac fa fw nw _ _ _ hP hD hS (lv_sub hl [0, 1] rfl) hs
                · replace hs := if_n c_14 hs
                  refine lv_aload_n hx hb dX5_goRounds_112 rfl (lv_at hl 0 rfl) ?_
                  refine va_get (D := (dC, dI)) (ci := 5) (v := .int fa) (C := RX5) (T := TX5) (N := 16) hx hb hts (fun w h => kg1 (iG_5 w h)) hown hK hP 0 rfl rfl 11 (by decide) (hts _ (kg1 mG_376)) (fun _ h9 => h9) rfl dX5_goRounds_113 ?_
                  have hJ_130 : ∀ (v6 : Int32) (fa : Int32) (fw : Int32) (H : Heap) (locs : List Loc) (ls : Array Slot), va_P (dC, dI) vwCl [(q5, .inr (5, [.ref q5bk, .ref q5nw, .ref q5to, .int th, .ref q5ne, .int si, .ref q5st, .int sn, .ref q5pd, .int re, .int ac, .int fa, .int fw, .ref q5cn, .ref q5ig, .ref q5ik])), (q5bk, .inl (cI, 15, .inl bk)), (q5nw, .inl (cI, 15, .inl nw)), (q5to, .inl (cI, 12, .inl to)), (q5ne, .inl (cI, 8, .inl ne)), (q5st, .inl (cI, 16, .inl st)), (q5pd, .inl (cI, 60, .inl pd)), (q5cn, .inl (cI, 3, .inl cn)), (q5ig, .inl (cI, 120, .inl ig)), (q5ik, .inl (cZ, 2, .inl ik))] H → va_D A [(q5, .inr (5, [.ref q5bk, .ref q5nw, .ref q5to, .int th, .ref q5ne, .int si, .ref q5st, .int sn, .ref q5pd, .int re, .int ac, .int fa, .int fw, .ref q5cn, .ref q5ig, .ref q5ik])), (q5bk, .inl (cI, 15, .inl bk)), (q5nw, .inl (cI, 15, .inl nw)), (q5to, .inl (cI, 12, .inl to)), (q5ne, .inl (cI, 8, .inl ne)), (q5st, .inl (cI, 16, .inl st)), (q5pd, .inl (cI, 60, .inl pd)), (q5cn, .inl (cI, 3, .inl cn)), (q5ig, .inl (cI, 120, .inl ig)), (q5ik, .inl (cZ, 2, .inl ik))] → va_S A s.heap H locs → lv_has ls 7 [(0, .ref q5), (1, .int v1), (5, .int v5), (6, .int v6)] → j_X5_goRounds_130 (L_X5_goRounds_23 th sn to pd n_23) (L_X5_goRounds_107 (L_X5_goRounds_23 th sn to pd n_23) v1 v5 re ac nw n_107) v5 v6 ac fa fw = some (r0, re_o, ac_o, fa_o, fw_o, nw_o) → W p l e rm_X5_goRounds s m args below meth c H locs 0 0 Q (F0 m 130 ls []) := by
                    intro v6 fa fw H locs ls hP hD hS hl hs
                    unfold j_X5_goRounds_130 at hs
                    refine lv_iload hx hb dX5_goRounds_130 (lv_at hl 2 rfl) ?_
                    refine lv_iload hx hb dX5_goRounds_132 (lv_at hl 3 rfl) ?_
                    refine kpi (va_runS (As := [.int v5, .int v6]) (rest := []) ⟨hx, hb, hml, hown, hts⟩ (k_X5_has l v5 v6 _ rfl) (va_cwS 2 hts (kGood (kgS mG_352 mG_353 mG_332 mG_327)) rfl rfl rfl hd_X5_has ⟨Nat.le_of_ble_eq_true rfl, Nat.le_of_ble_eq_true rfl⟩) preEq rfl rfl hl.1 rfl (lv_room (Nat.le_of_ble_eq_true rfl)) dX5_goRounds_134 ⟨Nat.zero_le _, Nat.zero_le _⟩) ?_
                    refine lv_if_eq (tgt := 154) hx hb dX5_goRounds_137 (by decide) (fun c_17 => ?_) (fun c_17 => ?_)
                    · replace hs := if_p c_17 hs
                      refine lv_iinc (v := (v6 + (-1))) (lv' := [(6, .int (v6 + (-1))), (0, .ref q5), (1, .int v1), (5, .int v5)]) hx hb dX5_goRounds_154 hl (k := 3) rfl rfl (by decide) rfl (fun ls hl => ?_)
                      refine lv_goto (tgt := 107) hx hb dX5_goRounds_157 (by decide) ?_
                      exact ih_107 v1 v5 (v6 + (-1)) re ac fa fw nw _ _ _ hP hD hS (lv_sub hl [1, 2, 3, 0] rfl) hs
                    · replace hs := if_n c_17 hs
                      refine lv_aload_n hx hb dX5_goRounds_140 rfl (lv_at hl 0 rfl) ?_
                      refine lv_aload_n hx hb dX5_goRounds_141 rfl (lv_at hl 0 rfl) ?_
                      refine va_get (D := (dC, dI)) (ci := 5) (v := .int ac) (C := RX5) (T := TX5) (N := 16) hx hb hts (fun w h => kg1 (iG_5 w h)) hown hK hP 0 rfl rfl 10 (by decide) (hts _ (kg1 mG_375)) (fun _ h9 => h9) rfl dX5_goRounds_142 ?_
                      refine va_put (D := (dC, dI)) (ci := 5) (v := .int ac) (ty := .int) (C := RX5) (T := TX5) (N := 16) hx hb hts (fun w h => kg1 (iG_5 w h)) tyX5 tyX5_ok nmX5 hown hK hP hD hS 0 rfl rfl 11 (by decide) (hts _ (kg1 mG_376)) (fun _ h9 => h9) rfl rfl rfl rfl (Nat.le_of_ble_eq_true rfl) dX5_goRounds_145 (fun H locs hP hD hS => ?_)
                      have hP : va_P (dC, dI) vwCl [(q5, .inr (5, [.ref q5bk, .ref q5nw, .ref q5to, .int th, .ref q5ne, .int si, .ref q5st, .int sn, .ref q5pd, .int re, .int ac, .int ac, .int fw, .ref q5cn, .ref q5ig, .ref q5ik])), (q5bk, .inl (cI, 15, .inl bk)), (q5nw, .inl (cI, 15, .inl nw)), (q5to, .inl (cI, 12, .inl to)), (q5ne, .inl (cI, 8, .inl ne)), (q5st, .inl (cI, 16, .inl st)), (q5pd, .inl (cI, 60, .inl pd)), (q5cn, .inl (cI, 3, .inl cn)), (q5ig, .inl (cI, 120, .inl ig)), (q5ik, .inl (cZ, 2, .inl ik))] H := hP
                      have hD : va_D A [(q5, .inr (5, [.ref q5bk, .ref q5nw, .ref q5to, .int th, .ref q5ne, .int si, .ref q5st, .int sn, .ref q5pd, .int re, .int ac, .int ac, .int fw, .ref q5cn, .ref q5ig, .ref q5ik])), (q5bk, .inl (cI, 15, .inl bk)), (q5nw, .inl (cI, 15, .inl nw)), (q5to, .inl (cI, 12, .inl to)), (q5ne, .inl (cI, 8, .inl ne)), (q5st, .inl (cI, 16, .inl st)), (q5pd, .inl (cI, 60, .inl pd)), (q5cn, .inl (cI, 3, .inl cn)), (q5ig, .inl (cI, 120, .inl ig)), (q5ik, .inl (cZ, 2, .inl ik))] := hD
                      refine lv_aload_n hx hb dX5_goRounds_148 rfl (lv_at hl 0 rfl) ?_
                      refine lv_iload hx hb dX5_goRounds_149 (lv_at hl 3 rfl) ?_
                      refine va_put (D := (dC, dI)) (ci := 5) (v := .int v6) (ty := .int) (C := RX5) (T := TX5) (N := 16) hx hb hts (fun w h => kg1 (iG_5 w h)) tyX5 tyX5_ok nmX5 hown hK hP hD hS 0 rfl rfl 12 (by decide) (hts _ (kg1 mG_377)) (fun _ h9 => h9) rfl rfl rfl rfl (Nat.le_of_ble_eq_true rfl) dX5_goRounds_151 (fun H locs hP hD hS => ?_)
                      have hP : va_P (dC, dI) vwCl [(q5, .inr (5, [.ref q5bk, .ref q5nw, .ref q5to, .int th, .ref q5ne, .int si, .ref q5st, .int sn, .ref q5pd, .int re, .int ac, .int ac, .int v6, .ref q5cn, .ref q5ig, .ref q5ik])), (q5bk, .inl (cI, 15, .inl bk)), (q5nw, .inl (cI, 15, .inl nw)), (q5to, .inl (cI, 12, .inl to)), (q5ne, .inl (cI, 8, .inl ne)), (q5st, .inl (cI, 16, .inl st)), (q5pd, .inl (cI, 60, .inl pd)), (q5cn, .inl (cI, 3, .inl cn)), (q5ig, .inl (cI, 120, .inl ig)), (q5ik, .inl (cZ, 2, .inl ik))] H := hP
                      have hD : va_D A [(q5, .inr (5, [.ref q5bk, .ref q5nw, .ref q5to, .int th, .ref q5ne, .int si, .ref q5st, .int sn, .ref q5pd, .int re, .int ac, .int ac, .int v6, .ref q5cn, .ref q5ig, .ref q5ik])), (q5bk, .inl (cI, 15, .inl bk)), (q5nw, .inl (cI, 15, .inl nw)), (q5to, .inl (cI, 12, .inl to)), (q5ne, .inl (cI, 8, .inl ne)), (q5st, .inl (cI, 16, .inl st)), (q5pd, .inl (cI, 60, .inl pd)), (q5cn, .inl (cI, 3, .inl cn)), (q5ig, .inl (cI, 120, .inl ig)), (q5ik, .inl (cZ, 2, .inl ik))] := hD
                      refine lv_iinc (v := (v6 + (-1))) (lv' := [(6, .int (v6 + (-1))), (0, .ref q5), (1, .int v1), (5, .int v5)]) hx hb dX5_goRounds_154 hl (k := 3) rfl rfl (by decide) rfl (fun ls hl => ?_)
                      refine lv_goto (tgt := 107) hx hb dX5_goRounds_157 (by decide) ?_
                      exact ih_107 v1 v5 (v6 + (-1)) re ac ac v6 nw _ _ _ hP hD hS (lv_sub hl [1, 2, 3, 0] rfl) hs
                  refine lv_if_lt (tgt := 130) hx hb dX5_goRounds_116 (by decide) (fun c_15 => ?_) (fun c_15 => ?_)
                  · replace hs := if_p c_15 hs
                    exact hJ_130 v6 fa fw _ _ _ hP hD hS (lv_sub hl [0, 1, 2, 3] rfl) hs
                  · replace hs := if_n c_15 hs
                    refine lv_aload_n hx hb dX5_goRounds_119 rfl (lv_at hl 0 rfl) ?_
                    refine va_get (D := (dC, dI)) (ci := 5) (v := .int fa) (C := RX5) (T := TX5) (N := 16) hx hb hts (fun w h => kg1 (iG_5 w h)) hown hK hP 0 rfl rfl 11 (by decide) (hts _ (kg1 mG_376)) (fun _ h9 => h9) rfl dX5_goRounds_120 ?_
                    refine lv_aload_n hx hb dX5_goRounds_123 rfl (lv_at hl 0 rfl) ?_
                    refine va_get (D := (dC, dI)) (ci := 5) (v := .int ac) (C := RX5) (T := TX5) (N := 16) hx hb hts (fun w h => kg1 (iG_5 w h)) hown hK hP 0 rfl rfl 10 (by decide) (hts _ (kg1 mG_375)) (fun _ h9 => h9) rfl dX5_goRounds_124 ?_
                    refine lv_icmp_ne (tgt := 160) hx hb dX5_goRounds_127 (by decide) (fun c_16 => ?_) (fun c_16 => ?_)
                    · replace hs := if_n c_16 hs
                      exact hJ_160 v1 re ac fa fw nw _ _ _ hP hD hS (lv_sub hl [0, 1] rfl) hs
                    · replace hs := if_p c_16 hs
                      exact hJ_130 v6 fa fw _ _ _ hP hD hS (lv_sub hl [0, 1, 2, 3] rfl) hs
            exact hL_107 fu v1 (r_12 &&& (r_8 ^^^ (-1 : Int32))) (11 : Int32) (m_X5_whyNot v2 nw) ac fa fw nw_10 _ _ _ hP hD hS (lv_sub hl [3, 4, 1, 0] rfl) hs
          · replace hs := if_n c_7 hs
            refine lv_aload_n hx hb dX5_goRounds_75 rfl (lv_at hl 0 rfl) ?_
            refine va_get (D := (dC, dI)) (ci := 5) (v := .int ac) (C := RX5) (T := TX5) (N := 16) hx hb hts (fun w h => kg1 (iG_5 w h)) hown hK hP 0 rfl rfl 10 (by decide) (hts _ (kg1 mG_375)) (fun _ h9 => h9) rfl dX5_goRounds_76 ?_
            cases hs
            exact hret _ _ _ _ hP hD hS (vp_nar_int _) dX5_goRounds_79
        refine lv_icmp_ne (tgt := 59) hx hb dX5_goRounds_43 (by decide) (fun c_5 => ?_) (fun c_5 => ?_)
        · replace hs := if_n c_5 hs
          exact hJ_59 v1 (pd (Int32.toNatClampNeg v1)) (0 : Int32) re ac fa fw nw _ _ _ hP hD hS (lv_sub hl [2, 3, 1, 0] rfl) hs
        · replace hs := if_p c_5 hs
          refine lv_iinc (v := (v1 + 1)) (lv' := [(1, .int (v1 + 1)), (3, .int (0 : Int32)), (2, .int (pd (Int32.toNatClampNeg v1))), (0, .ref q5)]) hx hb dX5_goRounds_46 hl (k := 3) rfl rfl (by decide) rfl (fun ls hl => ?_)
          refine lv_aload_n hx hb dX5_goRounds_49 rfl (lv_at hl 3 rfl) ?_
          refine va_get (D := (dC, dI)) (ci := 5) (v := .ref q5pd) (C := RX5) (T := TX5) (N := 16) hx hb hts (fun w h => kg1 (iG_5 w h)) hown hK hP 0 rfl rfl 8 (by decide) (hts _ (kg1 mG_321)) (fun _ h9 => h9) rfl dX5_goRounds_50 ?_
          refine lv_iload_n hx hb dX5_goRounds_53 rfl (lv_at hl 0 rfl) ?_
          obtain ⟨hg_6, hs⟩ := gd_e hs
          refine kald hx hb hK hP 6 0 rfl rfl (j := (Int32.toNatClampNeg (v1 + 1))) rfl (inb_e hg_6) dX5_goRounds_54 ?_
          refine lv_bipush (v := 48) hx hb dX5_goRounds_55 (by decide) ?_
          refine lv_isub hx hb dX5_goRounds_57 ?_
          refine lv_istore_n (lv' := [(3, .int ((pd (Int32.toNatClampNeg (v1 + 1))) - (48 : Int32))), (1, .int (v1 + 1)), (2, .int (pd (Int32.toNatClampNeg v1))), (0, .ref q5)]) hx hb dX5_goRounds_58 rfl hl (by decide) rfl (fun ls hl => ?_)
          exact hJ_59 (v1 + 1) (pd (Int32.toNatClampNeg v1)) ((pd (Int32.toNatClampNeg (v1 + 1))) - (48 : Int32)) re ac fa fw nw _ _ _ hP hD hS (lv_sub hl [3, 1, 2, 0] rfl) hs
  exact hL_23 fu (0 : Int32) re (0 : Int32) (-6 : Int32) (-6 : Int32) nw_1 _ _ _ hP hD hS (lv_sub hl [1, 0] rfl) hs
abbrev rm_X5_judge : Room := { frames := 5, cells := 0, slots := 0, locals := 114 }
theorem hd_X5_judge : yX5_judge.cls ≠ "java/lang/invoke/MethodHandle" ∧ yX5_judge.cls ≠ "java/lang/invoke/VarHandle" ∧ (parseMethodDescriptor yX5_judge.desc).map (fun d => d.parameters.length) = some 1 := by decide +kernel
set_option maxHeartbeats 4000000 in
set_option maxRecDepth 100000 in
theorem k_X5_judge (l : Launch) (dC : Nat → ClassId) (dI : Nat → Nat → Nat) (cI cZ cS : ClassId) (q5 q5bk q5nw q5to q5ne q5st q5pd q5cn q5ig q5ik : Nat) (sz : Nat) (th : Int32) (si : Int32) (sn : Int32) (re : Int32) (ac : Int32) (fa : Int32) (fw : Int32) (bk : Ar) (nw : Ar) (to : Ar) (ne : Ar) (st : Ar) (pd : Ar) (cn : Ar) (ig : Ar) (ik : Ar) (v1 : Int32) (r0 : Int32) (re_o : Int32) (ac_o : Int32) (fa_o : Int32) (fw_o : Int32) (nw_o : Ar) (hs : m_X5_judge v1 th sn re ac fa fw bk nw to pd = some (r0, re_o, ac_o, fa_o, fw_o, nw_o)) : Met l yX5_judge (.code yX5_judge cX5_judge 3 (some .int) :: kG) rm_X5_judge (va_Pc [.ref q5, .int v1] (kW (dC, dI) cI cZ cS [(q5, .inr (5, [.ref q5bk, .ref q5nw, .ref q5to, .int th, .ref q5ne, .int si, .ref q5st, .int sn, .ref q5pd, .int re, .int ac, .int fa, .int fw, .ref q5cn, .ref q5ig, .ref q5ik])), (q5bk, .inl (cI, 15, .inl bk)), (q5nw, .inl (cI, 15, .inl nw)), (q5to, .inl (cI, 12, .inl to)), (q5ne, .inl (cI, 8, .inl ne)), (q5st, .inl (cI, 16, .inl st)), (q5pd, .inl (cI, 60, .inl pd)), (q5cn, .inl (cI, 3, .inl cn)), (q5ig, .inl (cI, 120, .inl ig)), (q5ik, .inl (cZ, 2, .inl ik))] sz)) (kQi (dC, dI) [(q5, .inr (5, [.ref q5bk, .ref q5nw, .ref q5to, .int th, .ref q5ne, .int si, .ref q5st, .int sn, .ref q5pd, .int re, .int ac, .int fa, .int fw, .ref q5cn, .ref q5ig, .ref q5ik])), (q5bk, .inl (cI, 15, .inl bk)), (q5nw, .inl (cI, 15, .inl nw)), (q5to, .inl (cI, 12, .inl to)), (q5ne, .inl (cI, 8, .inl ne)), (q5st, .inl (cI, 16, .inl st)), (q5pd, .inl (cI, 60, .inl pd)), (q5cn, .inl (cI, 3, .inl cn)), (q5ig, .inl (cI, 120, .inl ig)), (q5ik, .inl (cZ, 2, .inl ik))] [(q5, .inr (5, [.ref q5bk, .ref q5nw, .ref q5to, .int th, .ref q5ne, .int si, .ref q5st, .int sn, .ref q5pd, .int re_o, .int ac_o, .int fa_o, .int fw_o, .ref q5cn, .ref q5ig, .ref q5ik])), (q5bk, .inl (cI, 15, .inl bk)), (q5nw, .inl (cI, 15, .inl nw_o)), (q5to, .inl (cI, 12, .inl to)), (q5ne, .inl (cI, 8, .inl ne)), (q5st, .inl (cI, 16, .inl st)), (q5pd, .inl (cI, 60, .inl pd)), (q5cn, .inl (cI, 3, .inl cn)), (q5ig, .inl (cI, 120, .inl ig)), (q5ik, .inl (cZ, 2, .inl ik))] sz r0) 0 0 (va_A [(q5, .inr (5, [.ref q5bk, .ref q5nw, .ref q5to, .int th, .ref q5ne, .int si, .ref q5st, .int sn, .ref q5pd, .int re, .int ac, .int fa, .int fw, .ref q5cn, .ref q5ig, .ref q5ik])), (q5bk, .inl (cI, 15, .inl bk)), (q5nw, .inl (cI, 15, .inl nw)), (q5to, .inl (cI, 12, .inl to)), (q5ne, .inl (cI, 8, .inl ne)), (q5st, .inl (cI, 16, .inl st)), (q5pd, .inl (cI, 60, .inl pd)), (q5cn, .inl (cI, 3, .inl cn)), (q5ig, .inl (cI, 120, .inl ig)), (q5ik, .inl (cZ, 2, .inl ik))] sz) := by
  refine kMi (own := RX5) (ty := .int) rfl (by decide) rfl ?_ (Nat.le_of_ble_eq_true rfl)
  intro p e s m args below meth c Q A CF hK hN hA hP hD hret ls hl
  have hS : va_S A s.heap s.heap [] := va_S.rf
  obtain ⟨hx, hb, hml, hown, hts⟩ := id CF
  have hl : lv_has ls 3 [(0, .ref q5), (1, .int v1)] := hl
  unfold m_X5_judge at hs
  refine lv_iload_n hx hb dX5_judge_0 rfl (lv_at hl 1 rfl) ?_
  refine lv_iconst (v := 0) hx hb dX5_judge_1 (by decide) ?_
  refine lv_iconst (v := 1) hx hb dX5_judge_2 (by decide) ?_
  refine kpi (va_runS (As := [.int v1, .int (0 : Int32), .int (1 : Int32)]) (rest := []) ⟨hx, hb, hml, hown, hts⟩ (k_X5_in l v1 (0 : Int32) (1 : Int32) _ rfl) (va_cwS 3 hts (kGood (kgS mG_330 mG_331 mG_332 mG_326)) rfl rfl rfl hd_X5_in ⟨Nat.le_of_ble_eq_true rfl, Nat.le_of_ble_eq_true rfl⟩) preEq rfl rfl hl.1 rfl (lv_room (Nat.le_of_ble_eq_true rfl)) dX5_judge_3 ⟨Nat.zero_le _, Nat.zero_le _⟩) ?_
  refine lv_if_ne (tgt := 12) hx hb dX5_judge_6 (by decide) (fun c_1 => ?_) (fun c_1 => ?_)
  · replace hs := if_n c_1 hs
    refine lv_aload_n hx hb dX5_judge_12 rfl (lv_at hl 0 rfl) ?_
    obtain ⟨r_2, hc_3, hs⟩ := ob1_e hs
    refine kci (wr := []) (ws' := [(q5, .inr (5, [.ref q5bk, .ref q5nw, .ref q5to, .int th, .ref q5ne, .int si, .ref q5st, .int sn, .ref q5pd, .int re, .int ac, .int fa, .int fw, .ref q5cn, .ref q5ig, .ref q5ik])), (q5bk, .inl (cI, 15, .inl bk)), (q5nw, .inl (cI, 15, .inl nw)), (q5to, .inl (cI, 12, .inl to)), (q5ne, .inl (cI, 8, .inl ne)), (q5st, .inl (cI, 16, .inl st)), (q5pd, .inl (cI, 60, .inl pd)), (q5cn, .inl (cI, 3, .inl cn)), (q5ig, .inl (cI, 120, .inl ig)), (q5ik, .inl (cZ, 2, .inl ik))]) (va_runV (As := []) (rest := []) ⟨hx, hb, hml, hown, hts⟩ (k_X5_faultOf l dC dI cI cZ cS q5 q5bk q5nw q5to q5ne q5st q5pd q5cn q5ig q5ik s.heap.size th si sn re ac fa fw bk nw to ne st pd cn ig ik r_2 hc_3) (cwV 0 hts (kGood (kgV mG_347 mG_348 mG_349 mG_332 mG_345)) rfl rfl rfl ⟨rfl, hd_X5_faultOf⟩ ⟨Nat.le_of_ble_eq_true rfl, Nat.le_of_ble_eq_true rfl⟩) (kpV hK hN (hP.sub (ws' := [(q5, .inr (5, [.ref q5bk, .ref q5nw, .ref q5to, .int th, .ref q5ne, .int si, .ref q5st, .int sn, .ref q5pd, .int re, .int ac, .int fa, .int fw, .ref q5cn, .ref q5ig, .ref q5ik])), (q5bk, .inl (cI, 15, .inl bk)), (q5nw, .inl (cI, 15, .inl nw)), (q5to, .inl (cI, 12, .inl to)), (q5ne, .inl (cI, 8, .inl ne)), (q5st, .inl (cI, 16, .inl st)), (q5pd, .inl (cI, 60, .inl pd)), (q5cn, .inl (cI, 3, .inl cn)), (q5ig, .inl (cI, 120, .inl ig)), (q5ik, .inl (cZ, 2, .inl ik))]) [0, 1, 2, 3, 4, 5, 6, 7, 8, 9] rfl) (hD.sub (ws' := [(q5, .inr (5, [.ref q5bk, .ref q5nw, .ref q5to, .int th, .ref q5ne, .int si, .ref q5st, .int sn, .ref q5pd, .int re, .int ac, .int fa, .int fw, .ref q5cn, .ref q5ig, .ref q5ik])), (q5bk, .inl (cI, 15, .inl bk)), (q5nw, .inl (cI, 15, .inl nw)), (q5to, .inl (cI, 12, .inl to)), (q5ne, .inl (cI, 8, .inl ne)), (q5st, .inl (cI, 16, .inl st)), (q5pd, .inl (cI, 60, .inl pd)), (q5cn, .inl (cI, 3, .inl cn)), (q5ig, .inl (cI, 120, .inl ig)), (q5ik, .inl (cZ, 2, .inl ik))]) [0, 1, 2, 3, 4, 5, 6, 7, 8, 9] rfl rfl) rfl rfl rfl) rfl rfl hl.1 rfl (lv_room (Nat.le_of_ble_eq_true rfl)) dX5_judge_13 ⟨Nat.zero_le _, Nat.zero_le _⟩) hP hD hS hA [0, 1, 2, 3, 4, 5, 6, 7, 8, 9] [] [0, 1, 2, 3, 4, 5, 6, 7, 8, 9] rfl rfl rfl (by decide) rfl rfl (fun H locs hP hD hS => ?_)
    refine lv_if_lt (tgt := 22) hx hb dX5_judge_16 (by decide) (fun c_4 => ?_) (fun c_4 => ?_)
    · replace hs := if_p c_4 hs
      refine lv_aload_n hx hb dX5_judge_22 rfl (lv_at hl 0 rfl) ?_
      obtain ⟨r_5, re_6, ac_7, fa_8, fw_9, nw_10, hc_11, hs⟩ := ob6_e hs
      refine kci (wr := []) (ws' := [(q5, .inr (5, [.ref q5bk, .ref q5nw, .ref q5to, .int th, .ref q5ne, .int si, .ref q5st, .int sn, .ref q5pd, .int re_6, .int ac_7, .int fa_8, .int fw_9, .ref q5cn, .ref q5ig, .ref q5ik])), (q5bk, .inl (cI, 15, .inl bk)), (q5nw, .inl (cI, 15, .inl nw_10)), (q5to, .inl (cI, 12, .inl to)), (q5ne, .inl (cI, 8, .inl ne)), (q5st, .inl (cI, 16, .inl st)), (q5pd, .inl (cI, 60, .inl pd)), (q5cn, .inl (cI, 3, .inl cn)), (q5ig, .inl (cI, 120, .inl ig)), (q5ik, .inl (cZ, 2, .inl ik))]) (va_runV (As := []) (rest := []) ⟨hx, hb, hml, hown, hts⟩ (k_X5_goRounds l dC dI cI cZ cS q5 q5bk q5nw q5to q5ne q5st q5pd q5cn q5ig q5ik H.size th si sn re ac fa fw bk nw to ne st pd cn ig ik r_5 re_6 ac_7 fa_8 fw_9 nw_10 hc_11) (cwV 0 hts (kGood (kgV mG_392 mG_393 mG_394 mG_332 mG_391)) rfl rfl rfl ⟨rfl, hd_X5_goRounds⟩ ⟨Nat.le_of_ble_eq_true rfl, Nat.le_of_ble_eq_true rfl⟩) (kpV hK hN (hP.sub (ws' := [(q5, .inr (5, [.ref q5bk, .ref q5nw, .ref q5to, .int th, .ref q5ne, .int si, .ref q5st, .int sn, .ref q5pd, .int re, .int ac, .int fa, .int fw, .ref q5cn, .ref q5ig, .ref q5ik])), (q5bk, .inl (cI, 15, .inl bk)), (q5nw, .inl (cI, 15, .inl nw)), (q5to, .inl (cI, 12, .inl to)), (q5ne, .inl (cI, 8, .inl ne)), (q5st, .inl (cI, 16, .inl st)), (q5pd, .inl (cI, 60, .inl pd)), (q5cn, .inl (cI, 3, .inl cn)), (q5ig, .inl (cI, 120, .inl ig)), (q5ik, .inl (cZ, 2, .inl ik))]) [0, 1, 2, 3, 4, 5, 6, 7, 8, 9] rfl) (hD.sub (ws' := [(q5, .inr (5, [.ref q5bk, .ref q5nw, .ref q5to, .int th, .ref q5ne, .int si, .ref q5st, .int sn, .ref q5pd, .int re, .int ac, .int fa, .int fw, .ref q5cn, .ref q5ig, .ref q5ik])), (q5bk, .inl (cI, 15, .inl bk)), (q5nw, .inl (cI, 15, .inl nw)), (q5to, .inl (cI, 12, .inl to)), (q5ne, .inl (cI, 8, .inl ne)), (q5st, .inl (cI, 16, .inl st)), (q5pd, .inl (cI, 60, .inl pd)), (q5cn, .inl (cI, 3, .inl cn)), (q5ig, .inl (cI, 120, .inl ig)), (q5ik, .inl (cZ, 2, .inl ik))]) [0, 1, 2, 3, 4, 5, 6, 7, 8, 9] rfl rfl) rfl rfl rfl) rfl rfl hl.1 rfl (lv_room (Nat.le_of_ble_eq_true rfl)) dX5_judge_23 ⟨Nat.zero_le _, Nat.zero_le _⟩) hP hD hS hA [0, 1, 2, 3, 4, 5, 6, 7, 8, 9] [] [0, 1, 2, 3, 4, 5, 6, 7, 8, 9] rfl rfl rfl (by decide) rfl rfl (fun H locs hP hD hS => ?_)
      refine lv_istore_n (lv' := [(2, .int r_5), (0, .ref q5), (1, .int v1)]) hx hb dX5_judge_26 rfl hl (by decide) rfl (fun ls hl => ?_)
      refine lv_iload_n hx hb dX5_judge_27 rfl (lv_at hl 0 rfl) ?_
      refine lv_if_lt (tgt := 35) hx hb dX5_judge_28 (by decide) (fun c_12 => ?_) (fun c_12 => ?_)
      · replace hs := if_p c_12 hs
        refine lv_iload_n hx hb dX5_judge_35 rfl (lv_at hl 0 rfl) ?_
        refine lv_goto (tgt := 43) hx hb dX5_judge_36 (by decide) ?_
        cases hs
        exact hret _ _ _ _ hP hD hS (vp_nar_int _) dX5_judge_43
      · replace hs := if_n c_12 hs
        refine lv_iload_n hx hb dX5_judge_31 rfl (lv_at hl 2 rfl) ?_
        refine lv_if_ne (tgt := 39) hx hb dX5_judge_32 (by decide) (fun c_13 => ?_) (fun c_13 => ?_)
        · replace hs := if_n c_13 hs
          refine lv_aload_n hx hb dX5_judge_39 rfl (lv_at hl 1 rfl) ?_
          refine va_get (D := (dC, dI)) (ci := 5) (v := .int re_6) (C := RX5) (T := TX5) (N := 16) hx hb hts (fun w h => kg1 (iG_5 w h)) hown hK hP 0 rfl rfl 9 (by decide) (hts _ (kg1 mG_378)) (fun _ h9 => h9) rfl dX5_judge_40 ?_
          cases hs
          exact hret _ _ _ _ hP hD hS (vp_nar_int _) dX5_judge_43
        · replace hs := if_p c_13 hs
          refine lv_iload_n hx hb dX5_judge_35 rfl (lv_at hl 0 rfl) ?_
          refine lv_goto (tgt := 43) hx hb dX5_judge_36 (by decide) ?_
          cases hs
          exact hret _ _ _ _ hP hD hS (vp_nar_int _) dX5_judge_43
    · replace hs := if_n c_4 hs
      refine lv_bipush (v := -5) hx hb dX5_judge_19 (by decide) ?_
      cases hs
      exact hret _ _ _ _ hP hD hS (vp_nar_int _) dX5_judge_21
  · replace hs := if_p c_1 hs
    refine lv_bipush (v := -2) hx hb dX5_judge_9 (by decide) ?_
    cases hs
    exact hret _ _ _ _ hP hD hS (vp_nar_int _) dX5_judge_11
abbrev rm_X5_barOfRounds : Room := { frames := 5, cells := 0, slots := 0, locals := 114 }
theorem hd_X5_barOfRounds : yX5_barOfRounds.cls ≠ "java/lang/invoke/MethodHandle" ∧ yX5_barOfRounds.cls ≠ "java/lang/invoke/VarHandle" ∧ (parseMethodDescriptor yX5_barOfRounds.desc).map (fun d => d.parameters.length) = some 0 := by decide +kernel
set_option maxHeartbeats 4000000 in
set_option maxRecDepth 100000 in
theorem k_X5_barOfRounds (l : Launch) (dC : Nat → ClassId) (dI : Nat → Nat → Nat) (cI cZ cS : ClassId) (q5 q5bk q5nw q5to q5ne q5st q5pd q5cn q5ig q5ik : Nat) (sz : Nat) (th : Int32) (si : Int32) (sn : Int32) (re : Int32) (ac : Int32) (fa : Int32) (fw : Int32) (bk : Ar) (nw : Ar) (to : Ar) (ne : Ar) (st : Ar) (pd : Ar) (cn : Ar) (ig : Ar) (ik : Ar)  (r0 : Int32) (re_o : Int32) (ac_o : Int32) (fa_o : Int32) (fw_o : Int32) (nw_o : Ar) (hs : m_X5_barOfRounds th sn re ac fa fw bk nw to pd = some (r0, re_o, ac_o, fa_o, fw_o, nw_o)) : Met l yX5_barOfRounds (.code yX5_barOfRounds cX5_barOfRounds 1 (some .int) :: kG) rm_X5_barOfRounds (va_Pc [.ref q5] (kW (dC, dI) cI cZ cS [(q5, .inr (5, [.ref q5bk, .ref q5nw, .ref q5to, .int th, .ref q5ne, .int si, .ref q5st, .int sn, .ref q5pd, .int re, .int ac, .int fa, .int fw, .ref q5cn, .ref q5ig, .ref q5ik])), (q5bk, .inl (cI, 15, .inl bk)), (q5nw, .inl (cI, 15, .inl nw)), (q5to, .inl (cI, 12, .inl to)), (q5ne, .inl (cI, 8, .inl ne)), (q5st, .inl (cI, 16, .inl st)), (q5pd, .inl (cI, 60, .inl pd)), (q5cn, .inl (cI, 3, .inl cn)), (q5ig, .inl (cI, 120, .inl ig)), (q5ik, .inl (cZ, 2, .inl ik))] sz)) (kQi (dC, dI) [(q5, .inr (5, [.ref q5bk, .ref q5nw, .ref q5to, .int th, .ref q5ne, .int si, .ref q5st, .int sn, .ref q5pd, .int re, .int ac, .int fa, .int fw, .ref q5cn, .ref q5ig, .ref q5ik])), (q5bk, .inl (cI, 15, .inl bk)), (q5nw, .inl (cI, 15, .inl nw)), (q5to, .inl (cI, 12, .inl to)), (q5ne, .inl (cI, 8, .inl ne)), (q5st, .inl (cI, 16, .inl st)), (q5pd, .inl (cI, 60, .inl pd)), (q5cn, .inl (cI, 3, .inl cn)), (q5ig, .inl (cI, 120, .inl ig)), (q5ik, .inl (cZ, 2, .inl ik))] [(q5, .inr (5, [.ref q5bk, .ref q5nw, .ref q5to, .int th, .ref q5ne, .int si, .ref q5st, .int sn, .ref q5pd, .int re_o, .int ac_o, .int fa_o, .int fw_o, .ref q5cn, .ref q5ig, .ref q5ik])), (q5bk, .inl (cI, 15, .inl bk)), (q5nw, .inl (cI, 15, .inl nw_o)), (q5to, .inl (cI, 12, .inl to)), (q5ne, .inl (cI, 8, .inl ne)), (q5st, .inl (cI, 16, .inl st)), (q5pd, .inl (cI, 60, .inl pd)), (q5cn, .inl (cI, 3, .inl cn)), (q5ig, .inl (cI, 120, .inl ig)), (q5ik, .inl (cZ, 2, .inl ik))] sz r0) 0 0 (va_A [(q5, .inr (5, [.ref q5bk, .ref q5nw, .ref q5to, .int th, .ref q5ne, .int si, .ref q5st, .int sn, .ref q5pd, .int re, .int ac, .int fa, .int fw, .ref q5cn, .ref q5ig, .ref q5ik])), (q5bk, .inl (cI, 15, .inl bk)), (q5nw, .inl (cI, 15, .inl nw)), (q5to, .inl (cI, 12, .inl to)), (q5ne, .inl (cI, 8, .inl ne)), (q5st, .inl (cI, 16, .inl st)), (q5pd, .inl (cI, 60, .inl pd)), (q5cn, .inl (cI, 3, .inl cn)), (q5ig, .inl (cI, 120, .inl ig)), (q5ik, .inl (cZ, 2, .inl ik))] sz) := by
  refine kMi (own := RX5) (ty := .int) rfl (by decide) rfl ?_ (Nat.le_of_ble_eq_true rfl)
  intro p e s m args below meth c Q A CF hK hN hA hP hD hret ls hl
  have hS : va_S A s.heap s.heap [] := va_S.rf
  obtain ⟨hx, hb, hml, hown, hts⟩ := id CF
  have hl : lv_has ls 1 [(0, .ref q5)] := hl
  unfold m_X5_barOfRounds at hs
  refine lv_aload_n hx hb dX5_barOfRounds_0 rfl (lv_at hl 0 rfl) ?_
  obtain ⟨r_1, hc_2, hs⟩ := ob1_e hs
  refine kci (wr := []) (ws' := [(q5, .inr (5, [.ref q5bk, .ref q5nw, .ref q5to, .int th, .ref q5ne, .int si, .ref q5st, .int sn, .ref q5pd, .int re, .int ac, .int fa, .int fw, .ref q5cn, .ref q5ig, .ref q5ik])), (q5bk, .inl (cI, 15, .inl bk)), (q5nw, .inl (cI, 15, .inl nw)), (q5to, .inl (cI, 12, .inl to)), (q5ne, .inl (cI, 8, .inl ne)), (q5st, .inl (cI, 16, .inl st)), (q5pd, .inl (cI, 60, .inl pd)), (q5cn, .inl (cI, 3, .inl cn)), (q5ig, .inl (cI, 120, .inl ig)), (q5ik, .inl (cZ, 2, .inl ik))]) (va_runV (As := []) (rest := []) ⟨hx, hb, hml, hown, hts⟩ (k_X5_faultOf l dC dI cI cZ cS q5 q5bk q5nw q5to q5ne q5st q5pd q5cn q5ig q5ik s.heap.size th si sn re ac fa fw bk nw to ne st pd cn ig ik r_1 hc_2) (cwV 0 hts (kGood (kgV mG_347 mG_348 mG_349 mG_332 mG_345)) rfl rfl rfl ⟨rfl, hd_X5_faultOf⟩ ⟨Nat.le_of_ble_eq_true rfl, Nat.le_of_ble_eq_true rfl⟩) (kpV hK hN (hP.sub (ws' := [(q5, .inr (5, [.ref q5bk, .ref q5nw, .ref q5to, .int th, .ref q5ne, .int si, .ref q5st, .int sn, .ref q5pd, .int re, .int ac, .int fa, .int fw, .ref q5cn, .ref q5ig, .ref q5ik])), (q5bk, .inl (cI, 15, .inl bk)), (q5nw, .inl (cI, 15, .inl nw)), (q5to, .inl (cI, 12, .inl to)), (q5ne, .inl (cI, 8, .inl ne)), (q5st, .inl (cI, 16, .inl st)), (q5pd, .inl (cI, 60, .inl pd)), (q5cn, .inl (cI, 3, .inl cn)), (q5ig, .inl (cI, 120, .inl ig)), (q5ik, .inl (cZ, 2, .inl ik))]) [0, 1, 2, 3, 4, 5, 6, 7, 8, 9] rfl) (hD.sub (ws' := [(q5, .inr (5, [.ref q5bk, .ref q5nw, .ref q5to, .int th, .ref q5ne, .int si, .ref q5st, .int sn, .ref q5pd, .int re, .int ac, .int fa, .int fw, .ref q5cn, .ref q5ig, .ref q5ik])), (q5bk, .inl (cI, 15, .inl bk)), (q5nw, .inl (cI, 15, .inl nw)), (q5to, .inl (cI, 12, .inl to)), (q5ne, .inl (cI, 8, .inl ne)), (q5st, .inl (cI, 16, .inl st)), (q5pd, .inl (cI, 60, .inl pd)), (q5cn, .inl (cI, 3, .inl cn)), (q5ig, .inl (cI, 120, .inl ig)), (q5ik, .inl (cZ, 2, .inl ik))]) [0, 1, 2, 3, 4, 5, 6, 7, 8, 9] rfl rfl) rfl rfl rfl) rfl rfl hl.1 rfl (lv_room (Nat.le_of_ble_eq_true rfl)) dX5_barOfRounds_1 ⟨Nat.zero_le _, Nat.zero_le _⟩) hP hD hS hA [0, 1, 2, 3, 4, 5, 6, 7, 8, 9] [] [0, 1, 2, 3, 4, 5, 6, 7, 8, 9] rfl rfl rfl (by decide) rfl rfl (fun H locs hP hD hS => ?_)
  refine lv_if_ge (tgt := 14) hx hb dX5_barOfRounds_4 (by decide) (fun c_3 => ?_) (fun c_3 => ?_)
  · replace hs := if_p c_3 hs
    refine lv_bipush (v := -5) hx hb dX5_barOfRounds_14 (by decide) ?_
    refine lv_goto (tgt := 20) hx hb dX5_barOfRounds_16 (by decide) ?_
    cases hs
    exact hret _ _ _ _ hP hD hS (vp_nar_int _) dX5_barOfRounds_20
  · replace hs := if_n c_3 hs
    refine lv_aload_n hx hb dX5_barOfRounds_7 rfl (lv_at hl 0 rfl) ?_
    obtain ⟨r_4, re_5, ac_6, fa_7, fw_8, nw_9, hc_10, hs⟩ := ob6_e hs
    refine kci (wr := []) (ws' := [(q5, .inr (5, [.ref q5bk, .ref q5nw, .ref q5to, .int th, .ref q5ne, .int si, .ref q5st, .int sn, .ref q5pd, .int re_5, .int ac_6, .int fa_7, .int fw_8, .ref q5cn, .ref q5ig, .ref q5ik])), (q5bk, .inl (cI, 15, .inl bk)), (q5nw, .inl (cI, 15, .inl nw_9)), (q5to, .inl (cI, 12, .inl to)), (q5ne, .inl (cI, 8, .inl ne)), (q5st, .inl (cI, 16, .inl st)), (q5pd, .inl (cI, 60, .inl pd)), (q5cn, .inl (cI, 3, .inl cn)), (q5ig, .inl (cI, 120, .inl ig)), (q5ik, .inl (cZ, 2, .inl ik))]) (va_runV (As := []) (rest := []) ⟨hx, hb, hml, hown, hts⟩ (k_X5_goRounds l dC dI cI cZ cS q5 q5bk q5nw q5to q5ne q5st q5pd q5cn q5ig q5ik H.size th si sn re ac fa fw bk nw to ne st pd cn ig ik r_4 re_5 ac_6 fa_7 fw_8 nw_9 hc_10) (cwV 0 hts (kGood (kgV mG_392 mG_393 mG_394 mG_332 mG_391)) rfl rfl rfl ⟨rfl, hd_X5_goRounds⟩ ⟨Nat.le_of_ble_eq_true rfl, Nat.le_of_ble_eq_true rfl⟩) (kpV hK hN (hP.sub (ws' := [(q5, .inr (5, [.ref q5bk, .ref q5nw, .ref q5to, .int th, .ref q5ne, .int si, .ref q5st, .int sn, .ref q5pd, .int re, .int ac, .int fa, .int fw, .ref q5cn, .ref q5ig, .ref q5ik])), (q5bk, .inl (cI, 15, .inl bk)), (q5nw, .inl (cI, 15, .inl nw)), (q5to, .inl (cI, 12, .inl to)), (q5ne, .inl (cI, 8, .inl ne)), (q5st, .inl (cI, 16, .inl st)), (q5pd, .inl (cI, 60, .inl pd)), (q5cn, .inl (cI, 3, .inl cn)), (q5ig, .inl (cI, 120, .inl ig)), (q5ik, .inl (cZ, 2, .inl ik))]) [0, 1, 2, 3, 4, 5, 6, 7, 8, 9] rfl) (hD.sub (ws' := [(q5, .inr (5, [.ref q5bk, .ref q5nw, .ref q5to, .int th, .ref q5ne, .int si, .ref q5st, .int sn, .ref q5pd, .int re, .int ac, .int fa, .int fw, .ref q5cn, .ref q5ig, .ref q5ik])), (q5bk, .inl (cI, 15, .inl bk)), (q5nw, .inl (cI, 15, .inl nw)), (q5to, .inl (cI, 12, .inl to)), (q5ne, .inl (cI, 8, .inl ne)), (q5st, .inl (cI, 16, .inl st)), (q5pd, .inl (cI, 60, .inl pd)), (q5cn, .inl (cI, 3, .inl cn)), (q5ig, .inl (cI, 120, .inl ig)), (q5ik, .inl (cZ, 2, .inl ik))]) [0, 1, 2, 3, 4, 5, 6, 7, 8, 9] rfl rfl) rfl rfl rfl) rfl rfl hl.1 rfl (lv_room (Nat.le_of_ble_eq_true rfl)) dX5_barOfRounds_8 ⟨Nat.zero_le _, Nat.zero_le _⟩) hP hD hS hA [0, 1, 2, 3, 4, 5, 6, 7, 8, 9] [] [0, 1, 2, 3, 4, 5, 6, 7, 8, 9] rfl rfl rfl (by decide) rfl rfl (fun H locs hP hD hS => ?_)
    refine lv_if_lt (tgt := 19) hx hb dX5_barOfRounds_11 (by decide) (fun c_11 => ?_) (fun c_11 => ?_)
    · replace hs := if_p c_11 hs
      refine lv_iconst (v := 0) hx hb dX5_barOfRounds_19 (by decide) ?_
      cases hs
      exact hret _ _ _ _ hP hD hS (vp_nar_int _) dX5_barOfRounds_20
    · replace hs := if_n c_11 hs
      refine lv_bipush (v := -5) hx hb dX5_barOfRounds_14 (by decide) ?_
      refine lv_goto (tgt := 20) hx hb dX5_barOfRounds_16 (by decide) ?_
      cases hs
      exact hret _ _ _ _ hP hD hS (vp_nar_int _) dX5_barOfRounds_20
abbrev rm_X5_done : Room := { frames := 6, cells := 0, slots := 0, locals := 134 }
theorem hd_X5_done : yX5_done.cls ≠ "java/lang/invoke/MethodHandle" ∧ yX5_done.cls ≠ "java/lang/invoke/VarHandle" ∧ (parseMethodDescriptor yX5_done.desc).map (fun d => d.parameters.length) = some 0 := by decide +kernel
set_option maxHeartbeats 4000000 in
set_option maxRecDepth 100000 in
theorem k_X5_done (l : Launch) (dC : Nat → ClassId) (dI : Nat → Nat → Nat) (cI cZ cS : ClassId) (q5 q5bk q5nw q5to q5ne q5st q5pd q5cn q5ig q5ik : Nat) (sz : Nat) (th : Int32) (si : Int32) (sn : Int32) (re : Int32) (ac : Int32) (fa : Int32) (fw : Int32) (bk : Ar) (nw : Ar) (to : Ar) (ne : Ar) (st : Ar) (pd : Ar) (cn : Ar) (ig : Ar) (ik : Ar)  (r0 : Int32) (sn_o : Int32) (re_o : Int32) (ac_o : Int32) (fa_o : Int32) (fw_o : Int32) (bk_o : Ar) (nw_o : Ar) (hs : m_X5_done th sn re ac fa fw bk nw to pd = some (r0, sn_o, re_o, ac_o, fa_o, fw_o, bk_o, nw_o)) : Met l yX5_done (.code yX5_done cX5_done 2 (some .int) :: kG) rm_X5_done (va_Pc [.ref q5] (kW (dC, dI) cI cZ cS [(q5, .inr (5, [.ref q5bk, .ref q5nw, .ref q5to, .int th, .ref q5ne, .int si, .ref q5st, .int sn, .ref q5pd, .int re, .int ac, .int fa, .int fw, .ref q5cn, .ref q5ig, .ref q5ik])), (q5bk, .inl (cI, 15, .inl bk)), (q5nw, .inl (cI, 15, .inl nw)), (q5to, .inl (cI, 12, .inl to)), (q5ne, .inl (cI, 8, .inl ne)), (q5st, .inl (cI, 16, .inl st)), (q5pd, .inl (cI, 60, .inl pd)), (q5cn, .inl (cI, 3, .inl cn)), (q5ig, .inl (cI, 120, .inl ig)), (q5ik, .inl (cZ, 2, .inl ik))] sz)) (kQi (dC, dI) [(q5, .inr (5, [.ref q5bk, .ref q5nw, .ref q5to, .int th, .ref q5ne, .int si, .ref q5st, .int sn, .ref q5pd, .int re, .int ac, .int fa, .int fw, .ref q5cn, .ref q5ig, .ref q5ik])), (q5bk, .inl (cI, 15, .inl bk)), (q5nw, .inl (cI, 15, .inl nw)), (q5to, .inl (cI, 12, .inl to)), (q5ne, .inl (cI, 8, .inl ne)), (q5st, .inl (cI, 16, .inl st)), (q5pd, .inl (cI, 60, .inl pd)), (q5cn, .inl (cI, 3, .inl cn)), (q5ig, .inl (cI, 120, .inl ig)), (q5ik, .inl (cZ, 2, .inl ik))] [(q5, .inr (5, [.ref q5bk, .ref q5nw, .ref q5to, .int th, .ref q5ne, .int si, .ref q5st, .int sn_o, .ref q5pd, .int re_o, .int ac_o, .int fa_o, .int fw_o, .ref q5cn, .ref q5ig, .ref q5ik])), (q5bk, .inl (cI, 15, .inl bk_o)), (q5nw, .inl (cI, 15, .inl nw_o)), (q5to, .inl (cI, 12, .inl to)), (q5ne, .inl (cI, 8, .inl ne)), (q5st, .inl (cI, 16, .inl st)), (q5pd, .inl (cI, 60, .inl pd)), (q5cn, .inl (cI, 3, .inl cn)), (q5ig, .inl (cI, 120, .inl ig)), (q5ik, .inl (cZ, 2, .inl ik))] sz r0) 0 0 (va_A [(q5, .inr (5, [.ref q5bk, .ref q5nw, .ref q5to, .int th, .ref q5ne, .int si, .ref q5st, .int sn, .ref q5pd, .int re, .int ac, .int fa, .int fw, .ref q5cn, .ref q5ig, .ref q5ik])), (q5bk, .inl (cI, 15, .inl bk)), (q5nw, .inl (cI, 15, .inl nw)), (q5to, .inl (cI, 12, .inl to)), (q5ne, .inl (cI, 8, .inl ne)), (q5st, .inl (cI, 16, .inl st)), (q5pd, .inl (cI, 60, .inl pd)), (q5cn, .inl (cI, 3, .inl cn)), (q5ig, .inl (cI, 120, .inl ig)), (q5ik, .inl (cZ, 2, .inl ik))] sz) := by
  refine kMi (own := RX5) (ty := .int) rfl (by decide) rfl ?_ (Nat.le_of_ble_eq_true rfl)
  intro p e s m args below meth c Q A CF hK hN hA hP hD hret ls hl
  have hS : va_S A s.heap s.heap [] := va_S.rf
  obtain ⟨hx, hb, hml, hown, hts⟩ := id CF
  have hl : lv_has ls 2 [(0, .ref q5)] := hl
  unfold m_X5_done at hs
  refine lv_aload_n hx hb dX5_done_0 rfl (lv_at hl 0 rfl) ?_
  obtain ⟨r_1, re_2, ac_3, fa_4, fw_5, nw_6, hc_7, hs⟩ := ob6_e hs
  refine kci (wr := []) (ws' := [(q5, .inr (5, [.ref q5bk, .ref q5nw, .ref q5to, .int th, .ref q5ne, .int si, .ref q5st, .int sn, .ref q5pd, .int re_2, .int ac_3, .int fa_4, .int fw_5, .ref q5cn, .ref q5ig, .ref q5ik])), (q5bk, .inl (cI, 15, .inl bk)), (q5nw, .inl (cI, 15, .inl nw_6)), (q5to, .inl (cI, 12, .inl to)), (q5ne, .inl (cI, 8, .inl ne)), (q5st, .inl (cI, 16, .inl st)), (q5pd, .inl (cI, 60, .inl pd)), (q5cn, .inl (cI, 3, .inl cn)), (q5ig, .inl (cI, 120, .inl ig)), (q5ik, .inl (cZ, 2, .inl ik))]) (va_runV (As := []) (rest := []) ⟨hx, hb, hml, hown, hts⟩ (k_X5_barOfRounds l dC dI cI cZ cS q5 q5bk q5nw q5to q5ne q5st q5pd q5cn q5ig q5ik s.heap.size th si sn re ac fa fw bk nw to ne st pd cn ig ik r_1 re_2 ac_3 fa_4 fw_5 nw_6 hc_7) (cwV 0 hts (kGood (kgV mG_397 mG_398 mG_399 mG_332 mG_396)) rfl rfl rfl ⟨rfl, hd_X5_barOfRounds⟩ ⟨Nat.le_of_ble_eq_true rfl, Nat.le_of_ble_eq_true rfl⟩) (kpV hK hN (hP.sub (ws' := [(q5, .inr (5, [.ref q5bk, .ref q5nw, .ref q5to, .int th, .ref q5ne, .int si, .ref q5st, .int sn, .ref q5pd, .int re, .int ac, .int fa, .int fw, .ref q5cn, .ref q5ig, .ref q5ik])), (q5bk, .inl (cI, 15, .inl bk)), (q5nw, .inl (cI, 15, .inl nw)), (q5to, .inl (cI, 12, .inl to)), (q5ne, .inl (cI, 8, .inl ne)), (q5st, .inl (cI, 16, .inl st)), (q5pd, .inl (cI, 60, .inl pd)), (q5cn, .inl (cI, 3, .inl cn)), (q5ig, .inl (cI, 120, .inl ig)), (q5ik, .inl (cZ, 2, .inl ik))]) [0, 1, 2, 3, 4, 5, 6, 7, 8, 9] rfl) (hD.sub (ws' := [(q5, .inr (5, [.ref q5bk, .ref q5nw, .ref q5to, .int th, .ref q5ne, .int si, .ref q5st, .int sn, .ref q5pd, .int re, .int ac, .int fa, .int fw, .ref q5cn, .ref q5ig, .ref q5ik])), (q5bk, .inl (cI, 15, .inl bk)), (q5nw, .inl (cI, 15, .inl nw)), (q5to, .inl (cI, 12, .inl to)), (q5ne, .inl (cI, 8, .inl ne)), (q5st, .inl (cI, 16, .inl st)), (q5pd, .inl (cI, 60, .inl pd)), (q5cn, .inl (cI, 3, .inl cn)), (q5ig, .inl (cI, 120, .inl ig)), (q5ik, .inl (cZ, 2, .inl ik))]) [0, 1, 2, 3, 4, 5, 6, 7, 8, 9] rfl rfl) rfl rfl rfl) rfl rfl hl.1 rfl (lv_room (Nat.le_of_ble_eq_true rfl)) dX5_done_1 ⟨Nat.zero_le _, Nat.zero_le _⟩) hP hD hS hA [0, 1, 2, 3, 4, 5, 6, 7, 8, 9] [] [0, 1, 2, 3, 4, 5, 6, 7, 8, 9] rfl rfl rfl (by decide) rfl rfl (fun H locs hP hD hS => ?_)
  refine lv_if_ge (tgt := 10) hx hb dX5_done_4 (by decide) (fun c_8 => ?_) (fun c_8 => ?_)
  · replace hs := if_p c_8 hs
    refine lv_iconst (v := 0) hx hb dX5_done_10 (by decide) ?_
    refine lv_istore_n (lv' := [(1, .int (0 : Int32)), (0, .ref q5)]) hx hb dX5_done_11 rfl hl (by decide) rfl (fun ls hl => ?_)
    have hL_12 : ∀ (n : Nat) (v1 : Int32) (sn : Int32) (re : Int32) (ac : Int32) (fa : Int32) (fw : Int32) (bk : Ar) (nw : Ar) (H : Heap) (locs : List Loc) (ls : Array Slot), va_P (dC, dI) vwCl [(q5, .inr (5, [.ref q5bk, .ref q5nw, .ref q5to, .int th, .ref q5ne, .int si, .ref q5st, .int sn, .ref q5pd, .int re, .int ac, .int fa, .int fw, .ref q5cn, .ref q5ig, .ref q5ik])), (q5bk, .inl (cI, 15, .inl bk)), (q5nw, .inl (cI, 15, .inl nw)), (q5to, .inl (cI, 12, .inl to)), (q5ne, .inl (cI, 8, .inl ne)), (q5st, .inl (cI, 16, .inl st)), (q5pd, .inl (cI, 60, .inl pd)), (q5cn, .inl (cI, 3, .inl cn)), (q5ig, .inl (cI, 120, .inl ig)), (q5ik, .inl (cZ, 2, .inl ik))] H → va_D A [(q5, .inr (5, [.ref q5bk, .ref q5nw, .ref q5to, .int th, .ref q5ne, .int si, .ref q5st, .int sn, .ref q5pd, .int re, .int ac, .int fa, .int fw, .ref q5cn, .ref q5ig, .ref q5ik])), (q5bk, .inl (cI, 15, .inl bk)), (q5nw, .inl (cI, 15, .inl nw)), (q5to, .inl (cI, 12, .inl to)), (q5ne, .inl (cI, 8, .inl ne)), (q5st, .inl (cI, 16, .inl st)), (q5pd, .inl (cI, 60, .inl pd)), (q5cn, .inl (cI, 3, .inl cn)), (q5ig, .inl (cI, 120, .inl ig)), (q5ik, .inl (cZ, 2, .inl ik))] → va_S A s.heap H locs → lv_has ls 2 [(0, .ref q5), (1, .int v1)] → L_X5_done_12 re ac fa fw nw n v1 bk = some (r0, sn_o, re_o, ac_o, fa_o, fw_o, bk_o, nw_o) → W p l e rm_X5_done s m args below meth c H locs 0 0 Q (F0 m 12 ls []) := by
      intro n
      induction n with
      | zero =>
        intro v1 sn re ac fa fw bk nw H locs ls hP hD hS hl hs
        replace hs : (none : Option (Int32 × Int32 × Int32 × Int32 × Int32 × Int32 × Ar × Ar)) = some (r0, sn_o, re_o, ac_o, fa_o, fw_o, bk_o, nw_o) := hs
        cases hs
      | succ n_12 ih_12 =>
        intro v1 sn re ac fa fw bk nw H locs ls hP hD hS hl hs
        replace hs : b_X5_done_12  (L_X5_done_12 re ac fa fw nw n_12) re ac fa fw nw v1 bk = some (r0, sn_o, re_o, ac_o, fa_o, fw_o, bk_o, nw_o) := hs
        unfold b_X5_done_12 at hs
        refine lv_iload_n hx hb dX5_done_12 rfl (lv_at hl 1 rfl) ?_
        refine lv_bipush (v := 15) hx hb dX5_done_13 (by decide) ?_
        refine lv_icmp_ge (tgt := 36) hx hb dX5_done_15 (by decide) (fun c_9 => ?_) (fun c_9 => ?_)
        · replace hs := if_p c_9 hs
          refine lv_aload_n hx hb dX5_done_36 rfl (lv_at hl 0 rfl) ?_
          refine lv_iconst (v := 0) hx hb dX5_done_37 (by decide) ?_
          refine va_put (D := (dC, dI)) (ci := 5) (v := .int (0 : Int32)) (ty := .int) (C := RX5) (T := TX5) (N := 16) hx hb hts (fun w h => kg1 (iG_5 w h)) tyX5 tyX5_ok nmX5 hown hK hP hD hS 0 rfl rfl 7 (by decide) (hts _ (kg1 mG_343)) (fun _ h9 => h9) rfl rfl rfl rfl (Nat.le_of_ble_eq_true rfl) dX5_done_38 (fun H locs hP hD hS => ?_)
          have hP : va_P (dC, dI) vwCl [(q5, .inr (5, [.ref q5bk, .ref q5nw, .ref q5to, .int th, .ref q5ne, .int si, .ref q5st, .int (0 : Int32), .ref q5pd, .int re, .int ac, .int fa, .int fw, .ref q5cn, .ref q5ig, .ref q5ik])), (q5bk, .inl (cI, 15, .inl bk)), (q5nw, .inl (cI, 15, .inl nw)), (q5to, .inl (cI, 12, .inl to)), (q5ne, .inl (cI, 8, .inl ne)), (q5st, .inl (cI, 16, .inl st)), (q5pd, .inl (cI, 60, .inl pd)), (q5cn, .inl (cI, 3, .inl cn)), (q5ig, .inl (cI, 120, .inl ig)), (q5ik, .inl (cZ, 2, .inl ik))] H := hP
          have hD : va_D A [(q5, .inr (5, [.ref q5bk, .ref q5nw, .ref q5to, .int th, .ref q5ne, .int si, .ref q5st, .int (0 : Int32), .ref q5pd, .int re, .int ac, .int fa, .int fw, .ref q5cn, .ref q5ig, .ref q5ik])), (q5bk, .inl (cI, 15, .inl bk)), (q5nw, .inl (cI, 15, .inl nw)), (q5to, .inl (cI, 12, .inl to)), (q5ne, .inl (cI, 8, .inl ne)), (q5st, .inl (cI, 16, .inl st)), (q5pd, .inl (cI, 60, .inl pd)), (q5cn, .inl (cI, 3, .inl cn)), (q5ig, .inl (cI, 120, .inl ig)), (q5ik, .inl (cZ, 2, .inl ik))] := hD
          refine lv_aload_n hx hb dX5_done_41 rfl (lv_at hl 0 rfl) ?_
          refine va_get (D := (dC, dI)) (ci := 5) (v := .int ac) (C := RX5) (T := TX5) (N := 16) hx hb hts (fun w h => kg1 (iG_5 w h)) hown hK hP 0 rfl rfl 10 (by decide) (hts _ (kg1 mG_375)) (fun _ h9 => h9) rfl dX5_done_42 ?_
          cases hs
          exact hret _ _ _ _ hP hD hS (vp_nar_int _) dX5_done_45
        · replace hs := if_n c_9 hs
          refine lv_aload_n hx hb dX5_done_18 rfl (lv_at hl 0 rfl) ?_
          refine va_get (D := (dC, dI)) (ci := 5) (v := .ref q5bk) (C := RX5) (T := TX5) (N := 16) hx hb hts (fun w h => kg1 (iG_5 w h)) hown hK hP 0 rfl rfl 0 (by decide) (hts _ (kg1 mG_316)) (fun _ h9 => h9) rfl dX5_done_19 ?_
          refine lv_iload_n hx hb dX5_done_22 rfl (lv_at hl 1 rfl) ?_
          refine lv_aload_n hx hb dX5_done_23 rfl (lv_at hl 0 rfl) ?_
          refine va_get (D := (dC, dI)) (ci := 5) (v := .ref q5nw) (C := RX5) (T := TX5) (N := 16) hx hb hts (fun w h => kg1 (iG_5 w h)) hown hK hP 0 rfl rfl 1 (by decide) (hts _ (kg1 mG_317)) (fun _ h9 => h9) rfl dX5_done_24 ?_
          refine lv_iload_n hx hb dX5_done_27 rfl (lv_at hl 1 rfl) ?_
          obtain ⟨hg_10, hs⟩ := gd_e hs
          refine kald hx hb hK hP 2 0 rfl rfl (j := (Int32.toNatClampNeg v1)) rfl (inb_e hg_10) dX5_done_28 ?_
          refine kast hx hb hK hP hD hS 1 0 rfl rfl (j := (Int32.toNatClampNeg v1)) rfl (inb_e hg_10) dX5_done_29 (fun H locs hP hD hS => ?_)
          have hP : va_P (dC, dI) vwCl [(q5, .inr (5, [.ref q5bk, .ref q5nw, .ref q5to, .int th, .ref q5ne, .int si, .ref q5st, .int sn, .ref q5pd, .int re, .int ac, .int fa, .int fw, .ref q5cn, .ref q5ig, .ref q5ik])), (q5bk, .inl (cI, 15, .inl (upd bk (Int32.toNatClampNeg v1) (nw (Int32.toNatClampNeg v1))))), (q5nw, .inl (cI, 15, .inl nw)), (q5to, .inl (cI, 12, .inl to)), (q5ne, .inl (cI, 8, .inl ne)), (q5st, .inl (cI, 16, .inl st)), (q5pd, .inl (cI, 60, .inl pd)), (q5cn, .inl (cI, 3, .inl cn)), (q5ig, .inl (cI, 120, .inl ig)), (q5ik, .inl (cZ, 2, .inl ik))] H := hP
          have hD : va_D A [(q5, .inr (5, [.ref q5bk, .ref q5nw, .ref q5to, .int th, .ref q5ne, .int si, .ref q5st, .int sn, .ref q5pd, .int re, .int ac, .int fa, .int fw, .ref q5cn, .ref q5ig, .ref q5ik])), (q5bk, .inl (cI, 15, .inl (upd bk (Int32.toNatClampNeg v1) (nw (Int32.toNatClampNeg v1))))), (q5nw, .inl (cI, 15, .inl nw)), (q5to, .inl (cI, 12, .inl to)), (q5ne, .inl (cI, 8, .inl ne)), (q5st, .inl (cI, 16, .inl st)), (q5pd, .inl (cI, 60, .inl pd)), (q5cn, .inl (cI, 3, .inl cn)), (q5ig, .inl (cI, 120, .inl ig)), (q5ik, .inl (cZ, 2, .inl ik))] := hD
          refine lv_iinc (v := (v1 + 1)) (lv' := [(1, .int (v1 + 1)), (0, .ref q5)]) hx hb dX5_done_30 hl (k := 1) rfl rfl (by decide) rfl (fun ls hl => ?_)
          refine lv_goto (tgt := 12) hx hb dX5_done_33 (by decide) ?_
          exact ih_12 (v1 + 1) sn re ac fa fw (upd bk (Int32.toNatClampNeg v1) (nw (Int32.toNatClampNeg v1))) nw _ _ _ hP hD hS (lv_sub hl [1, 0] rfl) hs
    exact hL_12 fu (0 : Int32) sn re_2 ac_3 fa_4 fw_5 bk nw_6 _ _ _ hP hD hS (lv_sub hl [1, 0] rfl) hs
  · replace hs := if_n c_8 hs
    refine lv_bipush (v := -5) hx hb dX5_done_7 (by decide) ?_
    cases hs
    exact hret _ _ _ _ hP hD hS (vp_nar_int _) dX5_done_9
abbrev rm_X5_behind : Room := { frames := 6, cells := 0, slots := 0, locals := 134 }
theorem hd_X5_behind : yX5_behind.cls ≠ "java/lang/invoke/MethodHandle" ∧ yX5_behind.cls ≠ "java/lang/invoke/VarHandle" ∧ (parseMethodDescriptor yX5_behind.desc).map (fun d => d.parameters.length) = some 1 := by decide +kernel
set_option maxHeartbeats 4000000 in
set_option maxRecDepth 100000 in
theorem k_X5_behind (l : Launch) (dC : Nat → ClassId) (dI : Nat → Nat → Nat) (cI cZ cS : ClassId) (q5 q5bk q5nw q5to q5ne q5st q5pd q5cn q5ig q5ik : Nat) (sz : Nat) (th : Int32) (si : Int32) (sn : Int32) (re : Int32) (ac : Int32) (fa : Int32) (fw : Int32) (bk : Ar) (nw : Ar) (to : Ar) (ne : Ar) (st : Ar) (pd : Ar) (cn : Ar) (ig : Ar) (ik : Ar) (v1 : Int32) (r0 : Int32) (re_o : Int32) (ac_o : Int32) (fa_o : Int32) (fw_o : Int32) (nw_o : Ar) (hs : m_X5_behind v1 th sn re ac fa fw bk nw to pd = some (r0, re_o, ac_o, fa_o, fw_o, nw_o)) : Met l yX5_behind (.code yX5_behind cX5_behind 2 (some .int) :: kG) rm_X5_behind (va_Pc [.ref q5, .int v1] (kW (dC, dI) cI cZ cS [(q5, .inr (5, [.ref q5bk, .ref q5nw, .ref q5to, .int th, .ref q5ne, .int si, .ref q5st, .int sn, .ref q5pd, .int re, .int ac, .int fa, .int fw, .ref q5cn, .ref q5ig, .ref q5ik])), (q5bk, .inl (cI, 15, .inl bk)), (q5nw, .inl (cI, 15, .inl nw)), (q5to, .inl (cI, 12, .inl to)), (q5ne, .inl (cI, 8, .inl ne)), (q5st, .inl (cI, 16, .inl st)), (q5pd, .inl (cI, 60, .inl pd)), (q5cn, .inl (cI, 3, .inl cn)), (q5ig, .inl (cI, 120, .inl ig)), (q5ik, .inl (cZ, 2, .inl ik))] sz)) (kQi (dC, dI) [(q5, .inr (5, [.ref q5bk, .ref q5nw, .ref q5to, .int th, .ref q5ne, .int si, .ref q5st, .int sn, .ref q5pd, .int re, .int ac, .int fa, .int fw, .ref q5cn, .ref q5ig, .ref q5ik])), (q5bk, .inl (cI, 15, .inl bk)), (q5nw, .inl (cI, 15, .inl nw)), (q5to, .inl (cI, 12, .inl to)), (q5ne, .inl (cI, 8, .inl ne)), (q5st, .inl (cI, 16, .inl st)), (q5pd, .inl (cI, 60, .inl pd)), (q5cn, .inl (cI, 3, .inl cn)), (q5ig, .inl (cI, 120, .inl ig)), (q5ik, .inl (cZ, 2, .inl ik))] [(q5, .inr (5, [.ref q5bk, .ref q5nw, .ref q5to, .int th, .ref q5ne, .int si, .ref q5st, .int sn, .ref q5pd, .int re_o, .int ac_o, .int fa_o, .int fw_o, .ref q5cn, .ref q5ig, .ref q5ik])), (q5bk, .inl (cI, 15, .inl bk)), (q5nw, .inl (cI, 15, .inl nw_o)), (q5to, .inl (cI, 12, .inl to)), (q5ne, .inl (cI, 8, .inl ne)), (q5st, .inl (cI, 16, .inl st)), (q5pd, .inl (cI, 60, .inl pd)), (q5cn, .inl (cI, 3, .inl cn)), (q5ig, .inl (cI, 120, .inl ig)), (q5ik, .inl (cZ, 2, .inl ik))] sz r0) 0 0 (va_A [(q5, .inr (5, [.ref q5bk, .ref q5nw, .ref q5to, .int th, .ref q5ne, .int si, .ref q5st, .int sn, .ref q5pd, .int re, .int ac, .int fa, .int fw, .ref q5cn, .ref q5ig, .ref q5ik])), (q5bk, .inl (cI, 15, .inl bk)), (q5nw, .inl (cI, 15, .inl nw)), (q5to, .inl (cI, 12, .inl to)), (q5ne, .inl (cI, 8, .inl ne)), (q5st, .inl (cI, 16, .inl st)), (q5pd, .inl (cI, 60, .inl pd)), (q5cn, .inl (cI, 3, .inl cn)), (q5ig, .inl (cI, 120, .inl ig)), (q5ik, .inl (cZ, 2, .inl ik))] sz) := by
  refine kMi (own := RX5) (ty := .int) rfl (by decide) rfl ?_ (Nat.le_of_ble_eq_true rfl)
  intro p e s m args below meth c Q A CF hK hN hA hP hD hret ls hl
  have hS : va_S A s.heap s.heap [] := va_S.rf
  obtain ⟨hx, hb, hml, hown, hts⟩ := id CF
  have hl : lv_has ls 2 [(0, .ref q5), (1, .int v1)] := hl
  unfold m_X5_behind at hs
  refine lv_iload_n hx hb dX5_behind_0 rfl (lv_at hl 1 rfl) ?_
  obtain ⟨r_1, hc_2, hs⟩ := ob1_e hs
  refine kpi (va_runS (As := [.int v1]) (rest := []) ⟨hx, hb, hml, hown, hts⟩ (k_X5_isPart l v1 r_1 hc_2) (va_cwS 1 hts (kGood (kgS mG_334 mG_335 mG_332 mG_329)) rfl rfl rfl hd_X5_isPart ⟨Nat.le_of_ble_eq_true rfl, Nat.le_of_ble_eq_true rfl⟩) preEq rfl rfl hl.1 rfl (lv_room (Nat.le_of_ble_eq_true rfl)) dX5_behind_1 ⟨Nat.zero_le _, Nat.zero_le _⟩) ?_
  refine lv_if_ne (tgt := 9) hx hb dX5_behind_4 (by decide) (fun c_3 => ?_) (fun c_3 => ?_)
  · replace hs := if_n c_3 hs
    refine lv_aload_n hx hb dX5_behind_9 rfl (lv_at hl 0 rfl) ?_
    obtain ⟨r_4, re_5, ac_6, fa_7, fw_8, nw_9, hc_10, hs⟩ := ob6_e hs
    refine kci (wr := []) (ws' := [(q5, .inr (5, [.ref q5bk, .ref q5nw, .ref q5to, .int th, .ref q5ne, .int si, .ref q5st, .int sn, .ref q5pd, .int re_5, .int ac_6, .int fa_7, .int fw_8, .ref q5cn, .ref q5ig, .ref q5ik])), (q5bk, .inl (cI, 15, .inl bk)), (q5nw, .inl (cI, 15, .inl nw_9)), (q5to, .inl (cI, 12, .inl to)), (q5ne, .inl (cI, 8, .inl ne)), (q5st, .inl (cI, 16, .inl st)), (q5pd, .inl (cI, 60, .inl pd)), (q5cn, .inl (cI, 3, .inl cn)), (q5ig, .inl (cI, 120, .inl ig)), (q5ik, .inl (cZ, 2, .inl ik))]) (va_runV (As := []) (rest := []) ⟨hx, hb, hml, hown, hts⟩ (k_X5_barOfRounds l dC dI cI cZ cS q5 q5bk q5nw q5to q5ne q5st q5pd q5cn q5ig q5ik s.heap.size th si sn re ac fa fw bk nw to ne st pd cn ig ik r_4 re_5 ac_6 fa_7 fw_8 nw_9 hc_10) (cwV 0 hts (kGood (kgV mG_397 mG_398 mG_399 mG_332 mG_396)) rfl rfl rfl ⟨rfl, hd_X5_barOfRounds⟩ ⟨Nat.le_of_ble_eq_true rfl, Nat.le_of_ble_eq_true rfl⟩) (kpV hK hN (hP.sub (ws' := [(q5, .inr (5, [.ref q5bk, .ref q5nw, .ref q5to, .int th, .ref q5ne, .int si, .ref q5st, .int sn, .ref q5pd, .int re, .int ac, .int fa, .int fw, .ref q5cn, .ref q5ig, .ref q5ik])), (q5bk, .inl (cI, 15, .inl bk)), (q5nw, .inl (cI, 15, .inl nw)), (q5to, .inl (cI, 12, .inl to)), (q5ne, .inl (cI, 8, .inl ne)), (q5st, .inl (cI, 16, .inl st)), (q5pd, .inl (cI, 60, .inl pd)), (q5cn, .inl (cI, 3, .inl cn)), (q5ig, .inl (cI, 120, .inl ig)), (q5ik, .inl (cZ, 2, .inl ik))]) [0, 1, 2, 3, 4, 5, 6, 7, 8, 9] rfl) (hD.sub (ws' := [(q5, .inr (5, [.ref q5bk, .ref q5nw, .ref q5to, .int th, .ref q5ne, .int si, .ref q5st, .int sn, .ref q5pd, .int re, .int ac, .int fa, .int fw, .ref q5cn, .ref q5ig, .ref q5ik])), (q5bk, .inl (cI, 15, .inl bk)), (q5nw, .inl (cI, 15, .inl nw)), (q5to, .inl (cI, 12, .inl to)), (q5ne, .inl (cI, 8, .inl ne)), (q5st, .inl (cI, 16, .inl st)), (q5pd, .inl (cI, 60, .inl pd)), (q5cn, .inl (cI, 3, .inl cn)), (q5ig, .inl (cI, 120, .inl ig)), (q5ik, .inl (cZ, 2, .inl ik))]) [0, 1, 2, 3, 4, 5, 6, 7, 8, 9] rfl rfl) rfl rfl rfl) rfl rfl hl.1 rfl (lv_room (Nat.le_of_ble_eq_true rfl)) dX5_behind_10 ⟨Nat.zero_le _, Nat.zero_le _⟩) hP hD hS hA [0, 1, 2, 3, 4, 5, 6, 7, 8, 9] [] [0, 1, 2, 3, 4, 5, 6, 7, 8, 9] rfl rfl rfl (by decide) rfl rfl (fun H locs hP hD hS => ?_)
    refine lv_if_ge (tgt := 21) hx hb dX5_behind_13 (by decide) (fun c_11 => ?_) (fun c_11 => ?_)
    · replace hs := if_p c_11 hs
      refine lv_aload_n hx hb dX5_behind_21 rfl (lv_at hl 0 rfl) ?_
      refine va_get (D := (dC, dI)) (ci := 5) (v := .ref q5nw) (C := RX5) (T := TX5) (N := 16) hx hb hts (fun w h => kg1 (iG_5 w h)) hown hK hP 0 rfl rfl 1 (by decide) (hts _ (kg1 mG_317)) (fun _ h9 => h9) rfl dX5_behind_22 ?_
      refine lv_iload_n hx hb dX5_behind_25 rfl (lv_at hl 1 rfl) ?_
      obtain ⟨hg_12, hs⟩ := gd_e hs
      refine kald hx hb hK hP 2 0 rfl rfl (j := (Int32.toNatClampNeg v1)) rfl (inb_e hg_12) dX5_behind_26 ?_
      cases hs
      exact hret _ _ _ _ hP hD hS (vp_nar_int _) dX5_behind_27
    · replace hs := if_n c_11 hs
      refine lv_bipush (v := -5) hx hb dX5_behind_16 (by decide) ?_
      refine lv_goto (tgt := 27) hx hb dX5_behind_18 (by decide) ?_
      cases hs
      exact hret _ _ _ _ hP hD hS (vp_nar_int _) dX5_behind_27
  · replace hs := if_p c_3 hs
    refine lv_iconst (v := -1) hx hb dX5_behind_7 (by decide) ?_
    cases hs
    exact hret _ _ _ _ hP hD hS (vp_nar_int _) dX5_behind_8
abbrev rm_X5_then : Room := { frames := 6, cells := 0, slots := 0, locals := 134 }
theorem hd_X5_then : yX5_then.cls ≠ "java/lang/invoke/MethodHandle" ∧ yX5_then.cls ≠ "java/lang/invoke/VarHandle" ∧ (parseMethodDescriptor yX5_then.desc).map (fun d => d.parameters.length) = some 1 := by decide +kernel
set_option maxHeartbeats 4000000 in
set_option maxRecDepth 100000 in
theorem k_X5_then (l : Launch) (dC : Nat → ClassId) (dI : Nat → Nat → Nat) (cI cZ cS : ClassId) (q5 q5bk q5nw q5to q5ne q5st q5pd q5cn q5ig q5ik : Nat) (sz : Nat) (th : Int32) (si : Int32) (sn : Int32) (re : Int32) (ac : Int32) (fa : Int32) (fw : Int32) (bk : Ar) (nw : Ar) (to : Ar) (ne : Ar) (st : Ar) (pd : Ar) (cn : Ar) (ig : Ar) (ik : Ar) (v1 : Int32) (r0 : Int32) (re_o : Int32) (ac_o : Int32) (fa_o : Int32) (fw_o : Int32) (nw_o : Ar) (hs : m_X5_then v1 th sn re ac fa fw bk nw to pd = some (r0, re_o, ac_o, fa_o, fw_o, nw_o)) : Met l yX5_then (.code yX5_then cX5_then 2 (some .int) :: kG) rm_X5_then (va_Pc [.ref q5, .int v1] (kW (dC, dI) cI cZ cS [(q5, .inr (5, [.ref q5bk, .ref q5nw, .ref q5to, .int th, .ref q5ne, .int si, .ref q5st, .int sn, .ref q5pd, .int re, .int ac, .int fa, .int fw, .ref q5cn, .ref q5ig, .ref q5ik])), (q5bk, .inl (cI, 15, .inl bk)), (q5nw, .inl (cI, 15, .inl nw)), (q5to, .inl (cI, 12, .inl to)), (q5ne, .inl (cI, 8, .inl ne)), (q5st, .inl (cI, 16, .inl st)), (q5pd, .inl (cI, 60, .inl pd)), (q5cn, .inl (cI, 3, .inl cn)), (q5ig, .inl (cI, 120, .inl ig)), (q5ik, .inl (cZ, 2, .inl ik))] sz)) (kQi (dC, dI) [(q5, .inr (5, [.ref q5bk, .ref q5nw, .ref q5to, .int th, .ref q5ne, .int si, .ref q5st, .int sn, .ref q5pd, .int re, .int ac, .int fa, .int fw, .ref q5cn, .ref q5ig, .ref q5ik])), (q5bk, .inl (cI, 15, .inl bk)), (q5nw, .inl (cI, 15, .inl nw)), (q5to, .inl (cI, 12, .inl to)), (q5ne, .inl (cI, 8, .inl ne)), (q5st, .inl (cI, 16, .inl st)), (q5pd, .inl (cI, 60, .inl pd)), (q5cn, .inl (cI, 3, .inl cn)), (q5ig, .inl (cI, 120, .inl ig)), (q5ik, .inl (cZ, 2, .inl ik))] [(q5, .inr (5, [.ref q5bk, .ref q5nw, .ref q5to, .int th, .ref q5ne, .int si, .ref q5st, .int sn, .ref q5pd, .int re_o, .int ac_o, .int fa_o, .int fw_o, .ref q5cn, .ref q5ig, .ref q5ik])), (q5bk, .inl (cI, 15, .inl bk)), (q5nw, .inl (cI, 15, .inl nw_o)), (q5to, .inl (cI, 12, .inl to)), (q5ne, .inl (cI, 8, .inl ne)), (q5st, .inl (cI, 16, .inl st)), (q5pd, .inl (cI, 60, .inl pd)), (q5cn, .inl (cI, 3, .inl cn)), (q5ig, .inl (cI, 120, .inl ig)), (q5ik, .inl (cZ, 2, .inl ik))] sz r0) 0 0 (va_A [(q5, .inr (5, [.ref q5bk, .ref q5nw, .ref q5to, .int th, .ref q5ne, .int si, .ref q5st, .int sn, .ref q5pd, .int re, .int ac, .int fa, .int fw, .ref q5cn, .ref q5ig, .ref q5ik])), (q5bk, .inl (cI, 15, .inl bk)), (q5nw, .inl (cI, 15, .inl nw)), (q5to, .inl (cI, 12, .inl to)), (q5ne, .inl (cI, 8, .inl ne)), (q5st, .inl (cI, 16, .inl st)), (q5pd, .inl (cI, 60, .inl pd)), (q5cn, .inl (cI, 3, .inl cn)), (q5ig, .inl (cI, 120, .inl ig)), (q5ik, .inl (cZ, 2, .inl ik))] sz) := by
  refine kMi (own := RX5) (ty := .int) rfl (by decide) rfl ?_ (Nat.le_of_ble_eq_true rfl)
  intro p e s m args below meth c Q A CF hK hN hA hP hD hret ls hl
  have hS : va_S A s.heap s.heap [] := va_S.rf
  obtain ⟨hx, hb, hml, hown, hts⟩ := id CF
  have hl : lv_has ls 2 [(0, .ref q5), (1, .int v1)] := hl
  unfold m_X5_then at hs
  refine lv_iload_n hx hb dX5_then_0 rfl (lv_at hl 1 rfl) ?_
  refine lv_iconst (v := 0) hx hb dX5_then_1 (by decide) ?_
  refine lv_iconst (v := 2) hx hb dX5_then_2 (by decide) ?_
  refine kpi (va_runS (As := [.int v1, .int (0 : Int32), .int (2 : Int32)]) (rest := []) ⟨hx, hb, hml, hown, hts⟩ (k_X5_in l v1 (0 : Int32) (2 : Int32) _ rfl) (va_cwS 3 hts (kGood (kgS mG_330 mG_331 mG_332 mG_326)) rfl rfl rfl hd_X5_in ⟨Nat.le_of_ble_eq_true rfl, Nat.le_of_ble_eq_true rfl⟩) preEq rfl rfl hl.1 rfl (lv_room (Nat.le_of_ble_eq_true rfl)) dX5_then_3 ⟨Nat.zero_le _, Nat.zero_le _⟩) ?_
  refine lv_if_ne (tgt := 12) hx hb dX5_then_6 (by decide) (fun c_1 => ?_) (fun c_1 => ?_)
  · replace hs := if_n c_1 hs
    refine lv_aload_n hx hb dX5_then_12 rfl (lv_at hl 0 rfl) ?_
    obtain ⟨r_2, re_3, ac_4, fa_5, fw_6, nw_7, hc_8, hs⟩ := ob6_e hs
    refine kci (wr := []) (ws' := [(q5, .inr (5, [.ref q5bk, .ref q5nw, .ref q5to, .int th, .ref q5ne, .int si, .ref q5st, .int sn, .ref q5pd, .int re_3, .int ac_4, .int fa_5, .int fw_6, .ref q5cn, .ref q5ig, .ref q5ik])), (q5bk, .inl (cI, 15, .inl bk)), (q5nw, .inl (cI, 15, .inl nw_7)), (q5to, .inl (cI, 12, .inl to)), (q5ne, .inl (cI, 8, .inl ne)), (q5st, .inl (cI, 16, .inl st)), (q5pd, .inl (cI, 60, .inl pd)), (q5cn, .inl (cI, 3, .inl cn)), (q5ig, .inl (cI, 120, .inl ig)), (q5ik, .inl (cZ, 2, .inl ik))]) (va_runV (As := []) (rest := []) ⟨hx, hb, hml, hown, hts⟩ (k_X5_barOfRounds l dC dI cI cZ cS q5 q5bk q5nw q5to q5ne q5st q5pd q5cn q5ig q5ik s.heap.size th si sn re ac fa fw bk nw to ne st pd cn ig ik r_2 re_3 ac_4 fa_5 fw_6 nw_7 hc_8) (cwV 0 hts (kGood (kgV mG_397 mG_398 mG_399 mG_332 mG_396)) rfl rfl rfl ⟨rfl, hd_X5_barOfRounds⟩ ⟨Nat.le_of_ble_eq_true rfl, Nat.le_of_ble_eq_true rfl⟩) (kpV hK hN (hP.sub (ws' := [(q5, .inr (5, [.ref q5bk, .ref q5nw, .ref q5to, .int th, .ref q5ne, .int si, .ref q5st, .int sn, .ref q5pd, .int re, .int ac, .int fa, .int fw, .ref q5cn, .ref q5ig, .ref q5ik])), (q5bk, .inl (cI, 15, .inl bk)), (q5nw, .inl (cI, 15, .inl nw)), (q5to, .inl (cI, 12, .inl to)), (q5ne, .inl (cI, 8, .inl ne)), (q5st, .inl (cI, 16, .inl st)), (q5pd, .inl (cI, 60, .inl pd)), (q5cn, .inl (cI, 3, .inl cn)), (q5ig, .inl (cI, 120, .inl ig)), (q5ik, .inl (cZ, 2, .inl ik))]) [0, 1, 2, 3, 4, 5, 6, 7, 8, 9] rfl) (hD.sub (ws' := [(q5, .inr (5, [.ref q5bk, .ref q5nw, .ref q5to, .int th, .ref q5ne, .int si, .ref q5st, .int sn, .ref q5pd, .int re, .int ac, .int fa, .int fw, .ref q5cn, .ref q5ig, .ref q5ik])), (q5bk, .inl (cI, 15, .inl bk)), (q5nw, .inl (cI, 15, .inl nw)), (q5to, .inl (cI, 12, .inl to)), (q5ne, .inl (cI, 8, .inl ne)), (q5st, .inl (cI, 16, .inl st)), (q5pd, .inl (cI, 60, .inl pd)), (q5cn, .inl (cI, 3, .inl cn)), (q5ig, .inl (cI, 120, .inl ig)), (q5ik, .inl (cZ, 2, .inl ik))]) [0, 1, 2, 3, 4, 5, 6, 7, 8, 9] rfl rfl) rfl rfl rfl) rfl rfl hl.1 rfl (lv_room (Nat.le_of_ble_eq_true rfl)) dX5_then_13 ⟨Nat.zero_le _, Nat.zero_le _⟩) hP hD hS hA [0, 1, 2, 3, 4, 5, 6, 7, 8, 9] [] [0, 1, 2, 3, 4, 5, 6, 7, 8, 9] rfl rfl rfl (by decide) rfl rfl (fun H locs hP hD hS => ?_)
    refine lv_if_ge (tgt := 22) hx hb dX5_then_16 (by decide) (fun c_9 => ?_) (fun c_9 => ?_)
    · replace hs := if_p c_9 hs
      refine lv_iload_n hx hb dX5_then_22 rfl (lv_at hl 1 rfl) ?_
      refine lv_if_ne (tgt := 33) hx hb dX5_then_23 (by decide) (fun c_10 => ?_) (fun c_10 => ?_)
      · replace hs := if_n c_10 hs
        refine lv_iload_n hx hb dX5_then_33 rfl (lv_at hl 1 rfl) ?_
        refine lv_iconst (v := 1) hx hb dX5_then_34 (by decide) ?_
        refine lv_icmp_ne (tgt := 48) hx hb dX5_then_35 (by decide) (fun c_11 => ?_) (fun c_11 => ?_)
        · replace hs := if_n c_11 hs
          refine lv_aload_n hx hb dX5_then_48 rfl (lv_at hl 0 rfl) ?_
          refine va_get (D := (dC, dI)) (ci := 5) (v := .ref q5nw) (C := RX5) (T := TX5) (N := 16) hx hb hts (fun w h => kg1 (iG_5 w h)) hown hK hP 0 rfl rfl 1 (by decide) (hts _ (kg1 mG_317)) (fun _ h9 => h9) rfl dX5_then_49 ?_
          refine lv_bipush (v := 14) hx hb dX5_then_52 (by decide) ?_
          refine kald hx hb hK hP 2 0 rfl rfl (j := 14) rfl (inb_e (i := (14 : Int32)) (n := 15) rfl) dX5_then_54 ?_
          cases hs
          exact hret _ _ _ _ hP hD hS (vp_nar_int _) dX5_then_55
        · replace hs := if_p c_11 hs
          refine lv_aload_n hx hb dX5_then_38 rfl (lv_at hl 0 rfl) ?_
          refine va_get (D := (dC, dI)) (ci := 5) (v := .ref q5nw) (C := RX5) (T := TX5) (N := 16) hx hb hts (fun w h => kg1 (iG_5 w h)) hown hK hP 0 rfl rfl 1 (by decide) (hts _ (kg1 mG_317)) (fun _ h9 => h9) rfl dX5_then_39 ?_
          refine lv_bipush (v := 12) hx hb dX5_then_42 (by decide) ?_
          refine kald hx hb hK hP 2 0 rfl rfl (j := 12) rfl (inb_e (i := (12 : Int32)) (n := 15) rfl) dX5_then_44 ?_
          refine lv_goto (tgt := 55) hx hb dX5_then_45 (by decide) ?_
          cases hs
          exact hret _ _ _ _ hP hD hS (vp_nar_int _) dX5_then_55
      · replace hs := if_p c_10 hs
        refine lv_aload_n hx hb dX5_then_26 rfl (lv_at hl 0 rfl) ?_
        obtain ⟨r_12, hc_13, hs⟩ := ob1_e hs
        refine kci (wr := []) (ws' := [(q5, .inr (5, [.ref q5bk, .ref q5nw, .ref q5to, .int th, .ref q5ne, .int si, .ref q5st, .int sn, .ref q5pd, .int re_3, .int ac_4, .int fa_5, .int fw_6, .ref q5cn, .ref q5ig, .ref q5ik])), (q5bk, .inl (cI, 15, .inl bk)), (q5nw, .inl (cI, 15, .inl nw_7)), (q5to, .inl (cI, 12, .inl to)), (q5ne, .inl (cI, 8, .inl ne)), (q5st, .inl (cI, 16, .inl st)), (q5pd, .inl (cI, 60, .inl pd)), (q5cn, .inl (cI, 3, .inl cn)), (q5ig, .inl (cI, 120, .inl ig)), (q5ik, .inl (cZ, 2, .inl ik))]) (va_runV (As := []) (rest := []) ⟨hx, hb, hml, hown, hts⟩ (k_X5_downSet l dC dI cI cZ cS q5 q5bk q5nw q5to q5ne q5st q5pd q5cn q5ig q5ik H.size th si sn re_3 ac_4 fa_5 fw_6 bk nw_7 to ne st pd cn ig ik r_12 hc_13) (cwV 0 hts (kGood (kgV mG_385 mG_386 mG_387 mG_332 mG_374)) rfl rfl rfl ⟨rfl, hd_X5_downSet⟩ ⟨Nat.le_of_ble_eq_true rfl, Nat.le_of_ble_eq_true rfl⟩) (kpV hK hN (hP.sub (ws' := [(q5, .inr (5, [.ref q5bk, .ref q5nw, .ref q5to, .int th, .ref q5ne, .int si, .ref q5st, .int sn, .ref q5pd, .int re_3, .int ac_4, .int fa_5, .int fw_6, .ref q5cn, .ref q5ig, .ref q5ik])), (q5bk, .inl (cI, 15, .inl bk)), (q5nw, .inl (cI, 15, .inl nw_7)), (q5to, .inl (cI, 12, .inl to)), (q5ne, .inl (cI, 8, .inl ne)), (q5st, .inl (cI, 16, .inl st)), (q5pd, .inl (cI, 60, .inl pd)), (q5cn, .inl (cI, 3, .inl cn)), (q5ig, .inl (cI, 120, .inl ig)), (q5ik, .inl (cZ, 2, .inl ik))]) [0, 1, 2, 3, 4, 5, 6, 7, 8, 9] rfl) (hD.sub (ws' := [(q5, .inr (5, [.ref q5bk, .ref q5nw, .ref q5to, .int th, .ref q5ne, .int si, .ref q5st, .int sn, .ref q5pd, .int re_3, .int ac_4, .int fa_5, .int fw_6, .ref q5cn, .ref q5ig, .ref q5ik])), (q5bk, .inl (cI, 15, .inl bk)), (q5nw, .inl (cI, 15, .inl nw_7)), (q5to, .inl (cI, 12, .inl to)), (q5ne, .inl (cI, 8, .inl ne)), (q5st, .inl (cI, 16, .inl st)), (q5pd, .inl (cI, 60, .inl pd)), (q5cn, .inl (cI, 3, .inl cn)), (q5ig, .inl (cI, 120, .inl ig)), (q5ik, .inl (cZ, 2, .inl ik))]) [0, 1, 2, 3, 4, 5, 6, 7, 8, 9] rfl rfl) rfl rfl rfl) rfl rfl hl.1 rfl (lv_room (Nat.le_of_ble_eq_true rfl)) dX5_then_27 ⟨Nat.zero_le _, Nat.zero_le _⟩) hP hD hS hA [0, 1, 2, 3, 4, 5, 6, 7, 8, 9] [] [0, 1, 2, 3, 4, 5, 6, 7, 8, 9] rfl rfl rfl (by decide) rfl rfl (fun H locs hP hD hS => ?_)
        refine lv_goto (tgt := 55) hx hb dX5_then_30 (by decide) ?_
        cases hs
        exact hret _ _ _ _ hP hD hS (vp_nar_int _) dX5_then_55
    · replace hs := if_n c_9 hs
      refine lv_bipush (v := -5) hx hb dX5_then_19 (by decide) ?_
      cases hs
      exact hret _ _ _ _ hP hD hS (vp_nar_int _) dX5_then_21
  · replace hs := if_p c_1 hs
    refine lv_bipush (v := -2) hx hb dX5_then_9 (by decide) ?_
    cases hs
    exact hret _ _ _ _ hP hD hS (vp_nar_int _) dX5_then_11
abbrev rm_X5_fell : Room := { frames := 6, cells := 0, slots := 0, locals := 134 }
theorem hd_X5_fell : yX5_fell.cls ≠ "java/lang/invoke/MethodHandle" ∧ yX5_fell.cls ≠ "java/lang/invoke/VarHandle" ∧ (parseMethodDescriptor yX5_fell.desc).map (fun d => d.parameters.length) = some 1 := by decide +kernel
set_option maxHeartbeats 4000000 in
set_option maxRecDepth 100000 in
theorem k_X5_fell (l : Launch) (dC : Nat → ClassId) (dI : Nat → Nat → Nat) (cI cZ cS : ClassId) (q5 q5bk q5nw q5to q5ne q5st q5pd q5cn q5ig q5ik : Nat) (sz : Nat) (th : Int32) (si : Int32) (sn : Int32) (re : Int32) (ac : Int32) (fa : Int32) (fw : Int32) (bk : Ar) (nw : Ar) (to : Ar) (ne : Ar) (st : Ar) (pd : Ar) (cn : Ar) (ig : Ar) (ik : Ar) (v1 : Int32) (r0 : Int32) (re_o : Int32) (ac_o : Int32) (fa_o : Int32) (fw_o : Int32) (nw_o : Ar) (hs : m_X5_fell v1 th sn re ac fa fw bk nw to pd = some (r0, re_o, ac_o, fa_o, fw_o, nw_o)) : Met l yX5_fell (.code yX5_fell cX5_fell 2 (some .int) :: kG) rm_X5_fell (va_Pc [.ref q5, .int v1] (kW (dC, dI) cI cZ cS [(q5, .inr (5, [.ref q5bk, .ref q5nw, .ref q5to, .int th, .ref q5ne, .int si, .ref q5st, .int sn, .ref q5pd, .int re, .int ac, .int fa, .int fw, .ref q5cn, .ref q5ig, .ref q5ik])), (q5bk, .inl (cI, 15, .inl bk)), (q5nw, .inl (cI, 15, .inl nw)), (q5to, .inl (cI, 12, .inl to)), (q5ne, .inl (cI, 8, .inl ne)), (q5st, .inl (cI, 16, .inl st)), (q5pd, .inl (cI, 60, .inl pd)), (q5cn, .inl (cI, 3, .inl cn)), (q5ig, .inl (cI, 120, .inl ig)), (q5ik, .inl (cZ, 2, .inl ik))] sz)) (kQi (dC, dI) [(q5, .inr (5, [.ref q5bk, .ref q5nw, .ref q5to, .int th, .ref q5ne, .int si, .ref q5st, .int sn, .ref q5pd, .int re, .int ac, .int fa, .int fw, .ref q5cn, .ref q5ig, .ref q5ik])), (q5bk, .inl (cI, 15, .inl bk)), (q5nw, .inl (cI, 15, .inl nw)), (q5to, .inl (cI, 12, .inl to)), (q5ne, .inl (cI, 8, .inl ne)), (q5st, .inl (cI, 16, .inl st)), (q5pd, .inl (cI, 60, .inl pd)), (q5cn, .inl (cI, 3, .inl cn)), (q5ig, .inl (cI, 120, .inl ig)), (q5ik, .inl (cZ, 2, .inl ik))] [(q5, .inr (5, [.ref q5bk, .ref q5nw, .ref q5to, .int th, .ref q5ne, .int si, .ref q5st, .int sn, .ref q5pd, .int re_o, .int ac_o, .int fa_o, .int fw_o, .ref q5cn, .ref q5ig, .ref q5ik])), (q5bk, .inl (cI, 15, .inl bk)), (q5nw, .inl (cI, 15, .inl nw_o)), (q5to, .inl (cI, 12, .inl to)), (q5ne, .inl (cI, 8, .inl ne)), (q5st, .inl (cI, 16, .inl st)), (q5pd, .inl (cI, 60, .inl pd)), (q5cn, .inl (cI, 3, .inl cn)), (q5ig, .inl (cI, 120, .inl ig)), (q5ik, .inl (cZ, 2, .inl ik))] sz r0) 0 0 (va_A [(q5, .inr (5, [.ref q5bk, .ref q5nw, .ref q5to, .int th, .ref q5ne, .int si, .ref q5st, .int sn, .ref q5pd, .int re, .int ac, .int fa, .int fw, .ref q5cn, .ref q5ig, .ref q5ik])), (q5bk, .inl (cI, 15, .inl bk)), (q5nw, .inl (cI, 15, .inl nw)), (q5to, .inl (cI, 12, .inl to)), (q5ne, .inl (cI, 8, .inl ne)), (q5st, .inl (cI, 16, .inl st)), (q5pd, .inl (cI, 60, .inl pd)), (q5cn, .inl (cI, 3, .inl cn)), (q5ig, .inl (cI, 120, .inl ig)), (q5ik, .inl (cZ, 2, .inl ik))] sz) := by
  refine kMi (own := RX5) (ty := .int) rfl (by decide) rfl ?_ (Nat.le_of_ble_eq_true rfl)
  intro p e s m args below meth c Q A CF hK hN hA hP hD hret ls hl
  have hS : va_S A s.heap s.heap [] := va_S.rf
  obtain ⟨hx, hb, hml, hown, hts⟩ := id CF
  have hl : lv_has ls 2 [(0, .ref q5), (1, .int v1)] := hl
  unfold m_X5_fell at hs
  refine lv_iload_n hx hb dX5_fell_0 rfl (lv_at hl 1 rfl) ?_
  refine lv_iconst (v := 0) hx hb dX5_fell_1 (by decide) ?_
  refine lv_iconst (v := 1) hx hb dX5_fell_2 (by decide) ?_
  refine kpi (va_runS (As := [.int v1, .int (0 : Int32), .int (1 : Int32)]) (rest := []) ⟨hx, hb, hml, hown, hts⟩ (k_X5_in l v1 (0 : Int32) (1 : Int32) _ rfl) (va_cwS 3 hts (kGood (kgS mG_330 mG_331 mG_332 mG_326)) rfl rfl rfl hd_X5_in ⟨Nat.le_of_ble_eq_true rfl, Nat.le_of_ble_eq_true rfl⟩) preEq rfl rfl hl.1 rfl (lv_room (Nat.le_of_ble_eq_true rfl)) dX5_fell_3 ⟨Nat.zero_le _, Nat.zero_le _⟩) ?_
  refine lv_if_ne (tgt := 12) hx hb dX5_fell_6 (by decide) (fun c_1 => ?_) (fun c_1 => ?_)
  · replace hs := if_n c_1 hs
    refine lv_aload_n hx hb dX5_fell_12 rfl (lv_at hl 0 rfl) ?_
    obtain ⟨r_2, re_3, ac_4, fa_5, fw_6, nw_7, hc_8, hs⟩ := ob6_e hs
    refine kci (wr := []) (ws' := [(q5, .inr (5, [.ref q5bk, .ref q5nw, .ref q5to, .int th, .ref q5ne, .int si, .ref q5st, .int sn, .ref q5pd, .int re_3, .int ac_4, .int fa_5, .int fw_6, .ref q5cn, .ref q5ig, .ref q5ik])), (q5bk, .inl (cI, 15, .inl bk)), (q5nw, .inl (cI, 15, .inl nw_7)), (q5to, .inl (cI, 12, .inl to)), (q5ne, .inl (cI, 8, .inl ne)), (q5st, .inl (cI, 16, .inl st)), (q5pd, .inl (cI, 60, .inl pd)), (q5cn, .inl (cI, 3, .inl cn)), (q5ig, .inl (cI, 120, .inl ig)), (q5ik, .inl (cZ, 2, .inl ik))]) (va_runV (As := []) (rest := []) ⟨hx, hb, hml, hown, hts⟩ (k_X5_barOfRounds l dC dI cI cZ cS q5 q5bk q5nw q5to q5ne q5st q5pd q5cn q5ig q5ik s.heap.size th si sn re ac fa fw bk nw to ne st pd cn ig ik r_2 re_3 ac_4 fa_5 fw_6 nw_7 hc_8) (cwV 0 hts (kGood (kgV mG_397 mG_398 mG_399 mG_332 mG_396)) rfl rfl rfl ⟨rfl, hd_X5_barOfRounds⟩ ⟨Nat.le_of_ble_eq_true rfl, Nat.le_of_ble_eq_true rfl⟩) (kpV hK hN (hP.sub (ws' := [(q5, .inr (5, [.ref q5bk, .ref q5nw, .ref q5to, .int th, .ref q5ne, .int si, .ref q5st, .int sn, .ref q5pd, .int re, .int ac, .int fa, .int fw, .ref q5cn, .ref q5ig, .ref q5ik])), (q5bk, .inl (cI, 15, .inl bk)), (q5nw, .inl (cI, 15, .inl nw)), (q5to, .inl (cI, 12, .inl to)), (q5ne, .inl (cI, 8, .inl ne)), (q5st, .inl (cI, 16, .inl st)), (q5pd, .inl (cI, 60, .inl pd)), (q5cn, .inl (cI, 3, .inl cn)), (q5ig, .inl (cI, 120, .inl ig)), (q5ik, .inl (cZ, 2, .inl ik))]) [0, 1, 2, 3, 4, 5, 6, 7, 8, 9] rfl) (hD.sub (ws' := [(q5, .inr (5, [.ref q5bk, .ref q5nw, .ref q5to, .int th, .ref q5ne, .int si, .ref q5st, .int sn, .ref q5pd, .int re, .int ac, .int fa, .int fw, .ref q5cn, .ref q5ig, .ref q5ik])), (q5bk, .inl (cI, 15, .inl bk)), (q5nw, .inl (cI, 15, .inl nw)), (q5to, .inl (cI, 12, .inl to)), (q5ne, .inl (cI, 8, .inl ne)), (q5st, .inl (cI, 16, .inl st)), (q5pd, .inl (cI, 60, .inl pd)), (q5cn, .inl (cI, 3, .inl cn)), (q5ig, .inl (cI, 120, .inl ig)), (q5ik, .inl (cZ, 2, .inl ik))]) [0, 1, 2, 3, 4, 5, 6, 7, 8, 9] rfl rfl) rfl rfl rfl) rfl rfl hl.1 rfl (lv_room (Nat.le_of_ble_eq_true rfl)) dX5_fell_13 ⟨Nat.zero_le _, Nat.zero_le _⟩) hP hD hS hA [0, 1, 2, 3, 4, 5, 6, 7, 8, 9] [] [0, 1, 2, 3, 4, 5, 6, 7, 8, 9] rfl rfl rfl (by decide) rfl rfl (fun H locs hP hD hS => ?_)
    refine lv_if_ge (tgt := 22) hx hb dX5_fell_16 (by decide) (fun c_9 => ?_) (fun c_9 => ?_)
    · replace hs := if_p c_9 hs
      refine lv_iload_n hx hb dX5_fell_22 rfl (lv_at hl 1 rfl) ?_
      refine lv_if_ne (tgt := 33) hx hb dX5_fell_23 (by decide) (fun c_10 => ?_) (fun c_10 => ?_)
      · replace hs := if_n c_10 hs
        refine lv_aload_n hx hb dX5_fell_33 rfl (lv_at hl 0 rfl) ?_
        refine va_get (D := (dC, dI)) (ci := 5) (v := .int fw_6) (C := RX5) (T := TX5) (N := 16) hx hb hts (fun w h => kg1 (iG_5 w h)) hown hK hP 0 rfl rfl 12 (by decide) (hts _ (kg1 mG_377)) (fun _ h9 => h9) rfl dX5_fell_34 ?_
        cases hs
        exact hret _ _ _ _ hP hD hS (vp_nar_int _) dX5_fell_37
      · replace hs := if_p c_10 hs
        refine lv_aload_n hx hb dX5_fell_26 rfl (lv_at hl 0 rfl) ?_
        refine va_get (D := (dC, dI)) (ci := 5) (v := .int fa_5) (C := RX5) (T := TX5) (N := 16) hx hb hts (fun w h => kg1 (iG_5 w h)) hown hK hP 0 rfl rfl 11 (by decide) (hts _ (kg1 mG_376)) (fun _ h9 => h9) rfl dX5_fell_27 ?_
        refine lv_goto (tgt := 37) hx hb dX5_fell_30 (by decide) ?_
        cases hs
        exact hret _ _ _ _ hP hD hS (vp_nar_int _) dX5_fell_37
    · replace hs := if_n c_9 hs
      refine lv_bipush (v := -5) hx hb dX5_fell_19 (by decide) ?_
      cases hs
      exact hret _ _ _ _ hP hD hS (vp_nar_int _) dX5_fell_21
  · replace hs := if_p c_1 hs
    refine lv_bipush (v := -2) hx hb dX5_fell_9 (by decide) ?_
    cases hs
    exact hret _ _ _ _ hP hD hS (vp_nar_int _) dX5_fell_11
abbrev rm_X5_down : Room := { frames := 1, cells := 0, slots := 0, locals := 22 }
theorem hd_X5_down : yX5_down.cls ≠ "java/lang/invoke/MethodHandle" ∧ yX5_down.cls ≠ "java/lang/invoke/VarHandle" ∧ (parseMethodDescriptor yX5_down.desc).map (fun d => d.parameters.length) = some 0 := by decide +kernel
set_option maxHeartbeats 4000000 in
set_option maxRecDepth 100000 in
theorem k_X5_down (l : Launch) (dC : Nat → ClassId) (dI : Nat → Nat → Nat) (cI cZ cS : ClassId) (q5 q5bk q5nw q5to q5ne q5st q5pd q5cn q5ig q5ik : Nat) (sz : Nat) (th : Int32) (si : Int32) (sn : Int32) (re : Int32) (ac : Int32) (fa : Int32) (fw : Int32) (bk : Ar) (nw : Ar) (to : Ar) (ne : Ar) (st : Ar) (pd : Ar) (cn : Ar) (ig : Ar) (ik : Ar)  (r0 : Int32) (nw_o : Ar) (hs : m_X5_down bk nw = some (r0, nw_o)) : Met l yX5_down (.code yX5_down cX5_down 1 (some .int) :: kG) rm_X5_down (va_Pc [.ref q5] (kW (dC, dI) cI cZ cS [(q5, .inr (5, [.ref q5bk, .ref q5nw, .ref q5to, .int th, .ref q5ne, .int si, .ref q5st, .int sn, .ref q5pd, .int re, .int ac, .int fa, .int fw, .ref q5cn, .ref q5ig, .ref q5ik])), (q5bk, .inl (cI, 15, .inl bk)), (q5nw, .inl (cI, 15, .inl nw)), (q5to, .inl (cI, 12, .inl to)), (q5ne, .inl (cI, 8, .inl ne)), (q5st, .inl (cI, 16, .inl st)), (q5pd, .inl (cI, 60, .inl pd)), (q5cn, .inl (cI, 3, .inl cn)), (q5ig, .inl (cI, 120, .inl ig)), (q5ik, .inl (cZ, 2, .inl ik))] sz)) (kQi (dC, dI) [(q5, .inr (5, [.ref q5bk, .ref q5nw, .ref q5to, .int th, .ref q5ne, .int si, .ref q5st, .int sn, .ref q5pd, .int re, .int ac, .int fa, .int fw, .ref q5cn, .ref q5ig, .ref q5ik])), (q5bk, .inl (cI, 15, .inl bk)), (q5nw, .inl (cI, 15, .inl nw)), (q5to, .inl (cI, 12, .inl to)), (q5ne, .inl (cI, 8, .inl ne)), (q5st, .inl (cI, 16, .inl st)), (q5pd, .inl (cI, 60, .inl pd)), (q5cn, .inl (cI, 3, .inl cn)), (q5ig, .inl (cI, 120, .inl ig)), (q5ik, .inl (cZ, 2, .inl ik))] [(q5, .inr (5, [.ref q5bk, .ref q5nw, .ref q5to, .int th, .ref q5ne, .int si, .ref q5st, .int sn, .ref q5pd, .int re, .int ac, .int fa, .int fw, .ref q5cn, .ref q5ig, .ref q5ik])), (q5bk, .inl (cI, 15, .inl bk)), (q5nw, .inl (cI, 15, .inl nw_o)), (q5to, .inl (cI, 12, .inl to)), (q5ne, .inl (cI, 8, .inl ne)), (q5st, .inl (cI, 16, .inl st)), (q5pd, .inl (cI, 60, .inl pd)), (q5cn, .inl (cI, 3, .inl cn)), (q5ig, .inl (cI, 120, .inl ig)), (q5ik, .inl (cZ, 2, .inl ik))] sz r0) 0 0 (va_A [(q5, .inr (5, [.ref q5bk, .ref q5nw, .ref q5to, .int th, .ref q5ne, .int si, .ref q5st, .int sn, .ref q5pd, .int re, .int ac, .int fa, .int fw, .ref q5cn, .ref q5ig, .ref q5ik])), (q5bk, .inl (cI, 15, .inl bk)), (q5nw, .inl (cI, 15, .inl nw)), (q5to, .inl (cI, 12, .inl to)), (q5ne, .inl (cI, 8, .inl ne)), (q5st, .inl (cI, 16, .inl st)), (q5pd, .inl (cI, 60, .inl pd)), (q5cn, .inl (cI, 3, .inl cn)), (q5ig, .inl (cI, 120, .inl ig)), (q5ik, .inl (cZ, 2, .inl ik))] sz) := by
  refine kMi (own := RX5) (ty := .int) rfl (by decide) rfl ?_ (Nat.le_of_ble_eq_true rfl)
  intro p e s m args below meth c Q A CF hK hN hA hP hD hret ls hl
  have hS : va_S A s.heap s.heap [] := va_S.rf
  obtain ⟨hx, hb, hml, hown, hts⟩ := id CF
  have hl : lv_has ls 1 [(0, .ref q5)] := hl
  unfold m_X5_down at hs
  refine lv_aload_n hx hb dX5_down_0 rfl (lv_at hl 0 rfl) ?_
  obtain ⟨nw_1, hc_2, hs⟩ := ob1_e hs
  refine kcv (wr := []) (ws' := [(q5, .inr (5, [.ref q5bk, .ref q5nw, .ref q5to, .int th, .ref q5ne, .int si, .ref q5st, .int sn, .ref q5pd, .int re, .int ac, .int fa, .int fw, .ref q5cn, .ref q5ig, .ref q5ik])), (q5bk, .inl (cI, 15, .inl bk)), (q5nw, .inl (cI, 15, .inl nw_1)), (q5to, .inl (cI, 12, .inl to)), (q5ne, .inl (cI, 8, .inl ne)), (q5st, .inl (cI, 16, .inl st)), (q5pd, .inl (cI, 60, .inl pd)), (q5cn, .inl (cI, 3, .inl cn)), (q5ig, .inl (cI, 120, .inl ig)), (q5ik, .inl (cZ, 2, .inl ik))]) (va_runV (As := []) (rest := []) ⟨hx, hb, hml, hown, hts⟩ (k_X5_asNow l dC dI cI cZ cS q5 q5bk q5nw q5to q5ne q5st q5pd q5cn q5ig q5ik s.heap.size th si sn re ac fa fw bk nw to ne st pd cn ig ik nw_1 hc_2) (cwV 0 hts (kGood (kgV mG_379 mG_380 mG_381 mG_332 mG_350)) rfl rfl rfl ⟨rfl, hd_X5_asNow⟩ ⟨Nat.le_of_ble_eq_true rfl, Nat.le_of_ble_eq_true rfl⟩) (kpV hK hN (hP.sub (ws' := [(q5, .inr (5, [.ref q5bk, .ref q5nw, .ref q5to, .int th, .ref q5ne, .int si, .ref q5st, .int sn, .ref q5pd, .int re, .int ac, .int fa, .int fw, .ref q5cn, .ref q5ig, .ref q5ik])), (q5bk, .inl (cI, 15, .inl bk)), (q5nw, .inl (cI, 15, .inl nw)), (q5to, .inl (cI, 12, .inl to)), (q5ne, .inl (cI, 8, .inl ne)), (q5st, .inl (cI, 16, .inl st)), (q5pd, .inl (cI, 60, .inl pd)), (q5cn, .inl (cI, 3, .inl cn)), (q5ig, .inl (cI, 120, .inl ig)), (q5ik, .inl (cZ, 2, .inl ik))]) [0, 1, 2, 3, 4, 5, 6, 7, 8, 9] rfl) (hD.sub (ws' := [(q5, .inr (5, [.ref q5bk, .ref q5nw, .ref q5to, .int th, .ref q5ne, .int si, .ref q5st, .int sn, .ref q5pd, .int re, .int ac, .int fa, .int fw, .ref q5cn, .ref q5ig, .ref q5ik])), (q5bk, .inl (cI, 15, .inl bk)), (q5nw, .inl (cI, 15, .inl nw)), (q5to, .inl (cI, 12, .inl to)), (q5ne, .inl (cI, 8, .inl ne)), (q5st, .inl (cI, 16, .inl st)), (q5pd, .inl (cI, 60, .inl pd)), (q5cn, .inl (cI, 3, .inl cn)), (q5ig, .inl (cI, 120, .inl ig)), (q5ik, .inl (cZ, 2, .inl ik))]) [0, 1, 2, 3, 4, 5, 6, 7, 8, 9] rfl rfl) rfl rfl rfl) rfl rfl hl.1 rfl (lv_room (Nat.le_of_ble_eq_true rfl)) dX5_down_1 ⟨Nat.zero_le _, Nat.zero_le _⟩) hP hD hS hA [0, 1, 2, 3, 4, 5, 6, 7, 8, 9] [] [0, 1, 2, 3, 4, 5, 6, 7, 8, 9] rfl rfl rfl (by decide) rfl rfl (fun H locs hP hD hS => ?_)
  refine lv_aload_n hx hb dX5_down_4 rfl (lv_at hl 0 rfl) ?_
  obtain ⟨r_3, hc_4, hs⟩ := ob1_e hs
  refine kci (wr := []) (ws' := [(q5, .inr (5, [.ref q5bk, .ref q5nw, .ref q5to, .int th, .ref q5ne, .int si, .ref q5st, .int sn, .ref q5pd, .int re, .int ac, .int fa, .int fw, .ref q5cn, .ref q5ig, .ref q5ik])), (q5bk, .inl (cI, 15, .inl bk)), (q5nw, .inl (cI, 15, .inl nw_1)), (q5to, .inl (cI, 12, .inl to)), (q5ne, .inl (cI, 8, .inl ne)), (q5st, .inl (cI, 16, .inl st)), (q5pd, .inl (cI, 60, .inl pd)), (q5cn, .inl (cI, 3, .inl cn)), (q5ig, .inl (cI, 120, .inl ig)), (q5ik, .inl (cZ, 2, .inl ik))]) (va_runV (As := []) (rest := []) ⟨hx, hb, hml, hown, hts⟩ (k_X5_downSet l dC dI cI cZ cS q5 q5bk q5nw q5to q5ne q5st q5pd q5cn q5ig q5ik H.size th si sn re ac fa fw bk nw_1 to ne st pd cn ig ik r_3 hc_4) (cwV 0 hts (kGood (kgV mG_385 mG_386 mG_387 mG_332 mG_374)) rfl rfl rfl ⟨rfl, hd_X5_downSet⟩ ⟨Nat.le_of_ble_eq_true rfl, Nat.le_of_ble_eq_true rfl⟩) (kpV hK hN (hP.sub (ws' := [(q5, .inr (5, [.ref q5bk, .ref q5nw, .ref q5to, .int th, .ref q5ne, .int si, .ref q5st, .int sn, .ref q5pd, .int re, .int ac, .int fa, .int fw, .ref q5cn, .ref q5ig, .ref q5ik])), (q5bk, .inl (cI, 15, .inl bk)), (q5nw, .inl (cI, 15, .inl nw_1)), (q5to, .inl (cI, 12, .inl to)), (q5ne, .inl (cI, 8, .inl ne)), (q5st, .inl (cI, 16, .inl st)), (q5pd, .inl (cI, 60, .inl pd)), (q5cn, .inl (cI, 3, .inl cn)), (q5ig, .inl (cI, 120, .inl ig)), (q5ik, .inl (cZ, 2, .inl ik))]) [0, 1, 2, 3, 4, 5, 6, 7, 8, 9] rfl) (hD.sub (ws' := [(q5, .inr (5, [.ref q5bk, .ref q5nw, .ref q5to, .int th, .ref q5ne, .int si, .ref q5st, .int sn, .ref q5pd, .int re, .int ac, .int fa, .int fw, .ref q5cn, .ref q5ig, .ref q5ik])), (q5bk, .inl (cI, 15, .inl bk)), (q5nw, .inl (cI, 15, .inl nw_1)), (q5to, .inl (cI, 12, .inl to)), (q5ne, .inl (cI, 8, .inl ne)), (q5st, .inl (cI, 16, .inl st)), (q5pd, .inl (cI, 60, .inl pd)), (q5cn, .inl (cI, 3, .inl cn)), (q5ig, .inl (cI, 120, .inl ig)), (q5ik, .inl (cZ, 2, .inl ik))]) [0, 1, 2, 3, 4, 5, 6, 7, 8, 9] rfl rfl) rfl rfl rfl) rfl rfl hl.1 rfl (lv_room (Nat.le_of_ble_eq_true rfl)) dX5_down_5 ⟨Nat.zero_le _, Nat.zero_le _⟩) hP hD hS hA [0, 1, 2, 3, 4, 5, 6, 7, 8, 9] [] [0, 1, 2, 3, 4, 5, 6, 7, 8, 9] rfl rfl rfl (by decide) rfl rfl (fun H locs hP hD hS => ?_)
  cases hs
  exact hret _ _ _ _ hP hD hS (vp_nar_int _) dX5_down_8
abbrev rm_X5_shout : Room := { frames := 3, cells := 0, slots := 0, locals := 65 }
theorem hd_X5_shout : yX5_shout.cls ≠ "java/lang/invoke/MethodHandle" ∧ yX5_shout.cls ≠ "java/lang/invoke/VarHandle" ∧ (parseMethodDescriptor yX5_shout.desc).map (fun d => d.parameters.length) = some 1 := by decide +kernel
set_option maxHeartbeats 4000000 in
set_option maxRecDepth 100000 in
theorem k_X5_shout (l : Launch) (dC : Nat → ClassId) (dI : Nat → Nat → Nat) (cI cZ cS : ClassId) (q5 q5bk q5nw q5to q5ne q5st q5pd q5cn q5ig q5ik : Nat) (sz : Nat) (th : Int32) (si : Int32) (sn : Int32) (re : Int32) (ac : Int32) (fa : Int32) (fw : Int32) (bk : Ar) (nw : Ar) (to : Ar) (ne : Ar) (st : Ar) (pd : Ar) (cn : Ar) (ig : Ar) (ik : Ar) (v1 : Int32) (r0 : Int32) (nw_o : Ar) (hs : m_X5_shout v1 th bk nw = some (r0, nw_o)) : Met l yX5_shout (.code yX5_shout cX5_shout 5 (some .int) :: kG) rm_X5_shout (va_Pc [.ref q5, .int v1] (kW (dC, dI) cI cZ cS [(q5, .inr (5, [.ref q5bk, .ref q5nw, .ref q5to, .int th, .ref q5ne, .int si, .ref q5st, .int sn, .ref q5pd, .int re, .int ac, .int fa, .int fw, .ref q5cn, .ref q5ig, .ref q5ik])), (q5bk, .inl (cI, 15, .inl bk)), (q5nw, .inl (cI, 15, .inl nw)), (q5to, .inl (cI, 12, .inl to)), (q5ne, .inl (cI, 8, .inl ne)), (q5st, .inl (cI, 16, .inl st)), (q5pd, .inl (cI, 60, .inl pd)), (q5cn, .inl (cI, 3, .inl cn)), (q5ig, .inl (cI, 120, .inl ig)), (q5ik, .inl (cZ, 2, .inl ik))] sz)) (kQi (dC, dI) [(q5, .inr (5, [.ref q5bk, .ref q5nw, .ref q5to, .int th, .ref q5ne, .int si, .ref q5st, .int sn, .ref q5pd, .int re, .int ac, .int fa, .int fw, .ref q5cn, .ref q5ig, .ref q5ik])), (q5bk, .inl (cI, 15, .inl bk)), (q5nw, .inl (cI, 15, .inl nw)), (q5to, .inl (cI, 12, .inl to)), (q5ne, .inl (cI, 8, .inl ne)), (q5st, .inl (cI, 16, .inl st)), (q5pd, .inl (cI, 60, .inl pd)), (q5cn, .inl (cI, 3, .inl cn)), (q5ig, .inl (cI, 120, .inl ig)), (q5ik, .inl (cZ, 2, .inl ik))] [(q5, .inr (5, [.ref q5bk, .ref q5nw, .ref q5to, .int th, .ref q5ne, .int si, .ref q5st, .int sn, .ref q5pd, .int re, .int ac, .int fa, .int fw, .ref q5cn, .ref q5ig, .ref q5ik])), (q5bk, .inl (cI, 15, .inl bk)), (q5nw, .inl (cI, 15, .inl nw_o)), (q5to, .inl (cI, 12, .inl to)), (q5ne, .inl (cI, 8, .inl ne)), (q5st, .inl (cI, 16, .inl st)), (q5pd, .inl (cI, 60, .inl pd)), (q5cn, .inl (cI, 3, .inl cn)), (q5ig, .inl (cI, 120, .inl ig)), (q5ik, .inl (cZ, 2, .inl ik))] sz r0) 0 0 (va_A [(q5, .inr (5, [.ref q5bk, .ref q5nw, .ref q5to, .int th, .ref q5ne, .int si, .ref q5st, .int sn, .ref q5pd, .int re, .int ac, .int fa, .int fw, .ref q5cn, .ref q5ig, .ref q5ik])), (q5bk, .inl (cI, 15, .inl bk)), (q5nw, .inl (cI, 15, .inl nw)), (q5to, .inl (cI, 12, .inl to)), (q5ne, .inl (cI, 8, .inl ne)), (q5st, .inl (cI, 16, .inl st)), (q5pd, .inl (cI, 60, .inl pd)), (q5cn, .inl (cI, 3, .inl cn)), (q5ig, .inl (cI, 120, .inl ig)), (q5ik, .inl (cZ, 2, .inl ik))] sz) := by
  refine kMi (own := RX5) (ty := .int) rfl (by decide) rfl ?_ (Nat.le_of_ble_eq_true rfl)
  intro p e s m args below meth c Q A CF hK hN hA hP hD hret ls hl
  have hS : va_S A s.heap s.heap [] := va_S.rf
  obtain ⟨hx, hb, hml, hown, hts⟩ := id CF
  have hl : lv_has ls 5 [(0, .ref q5), (1, .int v1)] := hl
  unfold m_X5_shout at hs
  refine lv_iload_n hx hb dX5_shout_0 rfl (lv_at hl 1 rfl) ?_
  refine lv_iconst (v := 1) hx hb dX5_shout_1 (by decide) ?_
  refine lv_bipush (v := 12) hx hb dX5_shout_2 (by decide) ?_
  refine kpi (va_runS (As := [.int v1, .int (1 : Int32), .int (12 : Int32)]) (rest := []) ⟨hx, hb, hml, hown, hts⟩ (k_X5_in l v1 (1 : Int32) (12 : Int32) _ rfl) (va_cwS 3 hts (kGood (kgS mG_330 mG_331 mG_332 mG_326)) rfl rfl rfl hd_X5_in ⟨Nat.le_of_ble_eq_true rfl, Nat.le_of_ble_eq_true rfl⟩) preEq rfl rfl hl.1 rfl (lv_room (Nat.le_of_ble_eq_true rfl)) dX5_shout_4 ⟨Nat.zero_le _, Nat.zero_le _⟩) ?_
  refine lv_if_ne (tgt := 13) hx hb dX5_shout_7 (by decide) (fun c_1 => ?_) (fun c_1 => ?_)
  · replace hs := if_n c_1 hs
    refine lv_iconst (v := 0) hx hb dX5_shout_13 (by decide) ?_
    refine lv_istore_n (lv' := [(2, .int (0 : Int32)), (0, .ref q5), (1, .int v1)]) hx hb dX5_shout_14 rfl hl (by decide) rfl (fun ls hl => ?_)
    have hL_15 : ∀ (n : Nat) (v2 : Int32) (nw : Ar) (H : Heap) (locs : List Loc) (ls : Array Slot), va_P (dC, dI) vwCl [(q5, .inr (5, [.ref q5bk, .ref q5nw, .ref q5to, .int th, .ref q5ne, .int si, .ref q5st, .int sn, .ref q5pd, .int re, .int ac, .int fa, .int fw, .ref q5cn, .ref q5ig, .ref q5ik])), (q5bk, .inl (cI, 15, .inl bk)), (q5nw, .inl (cI, 15, .inl nw)), (q5to, .inl (cI, 12, .inl to)), (q5ne, .inl (cI, 8, .inl ne)), (q5st, .inl (cI, 16, .inl st)), (q5pd, .inl (cI, 60, .inl pd)), (q5cn, .inl (cI, 3, .inl cn)), (q5ig, .inl (cI, 120, .inl ig)), (q5ik, .inl (cZ, 2, .inl ik))] H → va_D A [(q5, .inr (5, [.ref q5bk, .ref q5nw, .ref q5to, .int th, .ref q5ne, .int si, .ref q5st, .int sn, .ref q5pd, .int re, .int ac, .int fa, .int fw, .ref q5cn, .ref q5ig, .ref q5ik])), (q5bk, .inl (cI, 15, .inl bk)), (q5nw, .inl (cI, 15, .inl nw)), (q5to, .inl (cI, 12, .inl to)), (q5ne, .inl (cI, 8, .inl ne)), (q5st, .inl (cI, 16, .inl st)), (q5pd, .inl (cI, 60, .inl pd)), (q5cn, .inl (cI, 3, .inl cn)), (q5ig, .inl (cI, 120, .inl ig)), (q5ik, .inl (cZ, 2, .inl ik))] → va_S A s.heap H locs → lv_has ls 5 [(0, .ref q5), (1, .int v1), (2, .int v2)] → L_X5_shout_15 v1 th bk n v2 nw = some (r0, nw_o) → W p l e rm_X5_shout s m args below meth c H locs 0 0 Q (F0 m 15 ls []) := by
      intro n
      induction n with
      | zero =>
        intro v2 nw H locs ls hP hD hS hl hs
        replace hs : (none : Option (Int32 × Ar)) = some (r0, nw_o) := hs
        cases hs
      | succ n_15 ih_15 =>
        intro v2 nw H locs ls hP hD hS hl hs
        replace hs : b_X5_shout_15  (L_X5_shout_15 v1 th bk n_15) v1 th bk v2 nw = some (r0, nw_o) := hs
        unfold b_X5_shout_15 at hs
        refine lv_iload_n hx hb dX5_shout_15 rfl (lv_at hl 2 rfl) ?_
        refine lv_bipush (v := 100) hx hb dX5_shout_16 (by decide) ?_
        refine lv_icmp_ge (tgt := 106) hx hb dX5_shout_18 (by decide) (fun c_2 => ?_) (fun c_2 => ?_)
        · replace hs := if_p c_2 hs
          refine lv_bipush (v := -6) hx hb dX5_shout_106 (by decide) ?_
          cases hs
          exact hret _ _ _ _ hP hD hS (vp_nar_int _) dX5_shout_108
        · replace hs := if_n c_2 hs
          refine lv_aload_n hx hb dX5_shout_21 rfl (lv_at hl 0 rfl) ?_
          obtain ⟨nw_3, hc_4, hs⟩ := ob1_e hs
          refine kcv (wr := []) (ws' := [(q5, .inr (5, [.ref q5bk, .ref q5nw, .ref q5to, .int th, .ref q5ne, .int si, .ref q5st, .int sn, .ref q5pd, .int re, .int ac, .int fa, .int fw, .ref q5cn, .ref q5ig, .ref q5ik])), (q5bk, .inl (cI, 15, .inl bk)), (q5nw, .inl (cI, 15, .inl nw_3)), (q5to, .inl (cI, 12, .inl to)), (q5ne, .inl (cI, 8, .inl ne)), (q5st, .inl (cI, 16, .inl st)), (q5pd, .inl (cI, 60, .inl pd)), (q5cn, .inl (cI, 3, .inl cn)), (q5ig, .inl (cI, 120, .inl ig)), (q5ik, .inl (cZ, 2, .inl ik))]) (va_runV (As := []) (rest := []) ⟨hx, hb, hml, hown, hts⟩ (k_X5_asNow l dC dI cI cZ cS q5 q5bk q5nw q5to q5ne q5st q5pd q5cn q5ig q5ik H.size th si sn re ac fa fw bk nw to ne st pd cn ig ik nw_3 hc_4) (cwV 0 hts (kGood (kgV mG_379 mG_380 mG_381 mG_332 mG_350)) rfl rfl rfl ⟨rfl, hd_X5_asNow⟩ ⟨Nat.le_of_ble_eq_true rfl, Nat.le_of_ble_eq_true rfl⟩) (kpV hK hN (hP.sub (ws' := [(q5, .inr (5, [.ref q5bk, .ref q5nw, .ref q5to, .int th, .ref q5ne, .int si, .ref q5st, .int sn, .ref q5pd, .int re, .int ac, .int fa, .int fw, .ref q5cn, .ref q5ig, .ref q5ik])), (q5bk, .inl (cI, 15, .inl bk)), (q5nw, .inl (cI, 15, .inl nw)), (q5to, .inl (cI, 12, .inl to)), (q5ne, .inl (cI, 8, .inl ne)), (q5st, .inl (cI, 16, .inl st)), (q5pd, .inl (cI, 60, .inl pd)), (q5cn, .inl (cI, 3, .inl cn)), (q5ig, .inl (cI, 120, .inl ig)), (q5ik, .inl (cZ, 2, .inl ik))]) [0, 1, 2, 3, 4, 5, 6, 7, 8, 9] rfl) (hD.sub (ws' := [(q5, .inr (5, [.ref q5bk, .ref q5nw, .ref q5to, .int th, .ref q5ne, .int si, .ref q5st, .int sn, .ref q5pd, .int re, .int ac, .int fa, .int fw, .ref q5cn, .ref q5ig, .ref q5ik])), (q5bk, .inl (cI, 15, .inl bk)), (q5nw, .inl (cI, 15, .inl nw)), (q5to, .inl (cI, 12, .inl to)), (q5ne, .inl (cI, 8, .inl ne)), (q5st, .inl (cI, 16, .inl st)), (q5pd, .inl (cI, 60, .inl pd)), (q5cn, .inl (cI, 3, .inl cn)), (q5ig, .inl (cI, 120, .inl ig)), (q5ik, .inl (cZ, 2, .inl ik))]) [0, 1, 2, 3, 4, 5, 6, 7, 8, 9] rfl rfl) rfl rfl rfl) rfl rfl hl.1 rfl (lv_room (Nat.le_of_ble_eq_true rfl)) dX5_shout_22 ⟨Nat.zero_le _, Nat.zero_le _⟩) hP hD hS hA [0, 1, 2, 3, 4, 5, 6, 7, 8, 9] [] [0, 1, 2, 3, 4, 5, 6, 7, 8, 9] rfl rfl rfl (by decide) rfl rfl (fun H locs hP hD hS => ?_)
          refine lv_aload_n hx hb dX5_shout_25 rfl (lv_at hl 0 rfl) ?_
          refine va_get (D := (dC, dI)) (ci := 5) (v := .ref q5nw) (C := RX5) (T := TX5) (N := 16) hx hb hts (fun w h => kg1 (iG_5 w h)) hown hK hP 0 rfl rfl 1 (by decide) (hts _ (kg1 mG_317)) (fun _ h9 => h9) rfl dX5_shout_26 ?_
          refine lv_bipush (v := 12) hx hb dX5_shout_29 (by decide) ?_
          refine lv_aload_n hx hb dX5_shout_31 rfl (lv_at hl 0 rfl) ?_
          refine va_get (D := (dC, dI)) (ci := 5) (v := .ref q5nw) (C := RX5) (T := TX5) (N := 16) hx hb hts (fun w h => kg1 (iG_5 w h)) hown hK hP 0 rfl rfl 1 (by decide) (hts _ (kg1 mG_317)) (fun _ h9 => h9) rfl dX5_shout_32 ?_
          refine lv_bipush (v := 12) hx hb dX5_shout_35 (by decide) ?_
          refine kald hx hb hK hP 2 0 rfl rfl (j := 12) rfl (inb_e (i := (12 : Int32)) (n := 15) rfl) dX5_shout_37 ?_
          refine lv_iload_n hx hb dX5_shout_38 rfl (lv_at hl 2 rfl) ?_
          refine lv_iadd hx hb dX5_shout_39 ?_
          refine lv_bipush (v := 99) hx hb dX5_shout_40 (by decide) ?_
          have hJ_59 : ∀ (v2 : Int32) (s59_0 : Int32) (s59_1 : Int32) (nw : Ar) (H : Heap) (locs : List Loc) (ls : Array Slot), va_P (dC, dI) vwCl [(q5, .inr (5, [.ref q5bk, .ref q5nw, .ref q5to, .int th, .ref q5ne, .int si, .ref q5st, .int sn, .ref q5pd, .int re, .int ac, .int fa, .int fw, .ref q5cn, .ref q5ig, .ref q5ik])), (q5bk, .inl (cI, 15, .inl bk)), (q5nw, .inl (cI, 15, .inl nw)), (q5to, .inl (cI, 12, .inl to)), (q5ne, .inl (cI, 8, .inl ne)), (q5st, .inl (cI, 16, .inl st)), (q5pd, .inl (cI, 60, .inl pd)), (q5cn, .inl (cI, 3, .inl cn)), (q5ig, .inl (cI, 120, .inl ig)), (q5ik, .inl (cZ, 2, .inl ik))] H → va_D A [(q5, .inr (5, [.ref q5bk, .ref q5nw, .ref q5to, .int th, .ref q5ne, .int si, .ref q5st, .int sn, .ref q5pd, .int re, .int ac, .int fa, .int fw, .ref q5cn, .ref q5ig, .ref q5ik])), (q5bk, .inl (cI, 15, .inl bk)), (q5nw, .inl (cI, 15, .inl nw)), (q5to, .inl (cI, 12, .inl to)), (q5ne, .inl (cI, 8, .inl ne)), (q5st, .inl (cI, 16, .inl st)), (q5pd, .inl (cI, 60, .inl pd)), (q5cn, .inl (cI, 3, .inl cn)), (q5ig, .inl (cI, 120, .inl ig)), (q5ik, .inl (cZ, 2, .inl ik))] → va_S A s.heap H locs → lv_has ls 5 [(0, .ref q5), (1, .int v1), (2, .int v2)] → j_X5_shout_59 (L_X5_shout_15 v1 th bk n_15) v1 v2 s59_0 s59_1 th nw = some (r0, nw_o) → W p l e rm_X5_shout s m args below meth c H locs 0 0 Q (F0 m 59 ls [.int s59_0, .int s59_1, .ref q5nw]) := by
            intro v2 s59_0 s59_1 nw H locs ls hP hD hS hl hs
            unfold j_X5_shout_59 at hs
            obtain ⟨hg_6, hs⟩ := gd_e hs
            refine kast hx hb hK hP hD hS 2 0 rfl rfl (j := (Int32.toNatClampNeg s59_1)) rfl (inb_e hg_6) dX5_shout_59 (fun H locs hP hD hS => ?_)
            have hP : va_P (dC, dI) vwCl [(q5, .inr (5, [.ref q5bk, .ref q5nw, .ref q5to, .int th, .ref q5ne, .int si, .ref q5st, .int sn, .ref q5pd, .int re, .int ac, .int fa, .int fw, .ref q5cn, .ref q5ig, .ref q5ik])), (q5bk, .inl (cI, 15, .inl bk)), (q5nw, .inl (cI, 15, .inl (upd nw (Int32.toNatClampNeg s59_1) s59_0))), (q5to, .inl (cI, 12, .inl to)), (q5ne, .inl (cI, 8, .inl ne)), (q5st, .inl (cI, 16, .inl st)), (q5pd, .inl (cI, 60, .inl pd)), (q5cn, .inl (cI, 3, .inl cn)), (q5ig, .inl (cI, 120, .inl ig)), (q5ik, .inl (cZ, 2, .inl ik))] H := hP
            have hD : va_D A [(q5, .inr (5, [.ref q5bk, .ref q5nw, .ref q5to, .int th, .ref q5ne, .int si, .ref q5st, .int sn, .ref q5pd, .int re, .int ac, .int fa, .int fw, .ref q5cn, .ref q5ig, .ref q5ik])), (q5bk, .inl (cI, 15, .inl bk)), (q5nw, .inl (cI, 15, .inl (upd nw (Int32.toNatClampNeg s59_1) s59_0))), (q5to, .inl (cI, 12, .inl to)), (q5ne, .inl (cI, 8, .inl ne)), (q5st, .inl (cI, 16, .inl st)), (q5pd, .inl (cI, 60, .inl pd)), (q5cn, .inl (cI, 3, .inl cn)), (q5ig, .inl (cI, 120, .inl ig)), (q5ik, .inl (cZ, 2, .inl ik))] := hD
            refine lv_aload_n hx hb dX5_shout_60 rfl (lv_at hl 0 rfl) ?_
            obtain ⟨nw_7, hc_8, hs⟩ := ob1_e hs
            refine kcv (wr := []) (ws' := [(q5, .inr (5, [.ref q5bk, .ref q5nw, .ref q5to, .int th, .ref q5ne, .int si, .ref q5st, .int sn, .ref q5pd, .int re, .int ac, .int fa, .int fw, .ref q5cn, .ref q5ig, .ref q5ik])), (q5bk, .inl (cI, 15, .inl bk)), (q5nw, .inl (cI, 15, .inl nw_7)), (q5to, .inl (cI, 12, .inl to)), (q5ne, .inl (cI, 8, .inl ne)), (q5st, .inl (cI, 16, .inl st)), (q5pd, .inl (cI, 60, .inl pd)), (q5cn, .inl (cI, 3, .inl cn)), (q5ig, .inl (cI, 120, .inl ig)), (q5ik, .inl (cZ, 2, .inl ik))]) (va_runV (As := []) (rest := []) ⟨hx, hb, hml, hown, hts⟩ (k_X5_cry l dC dI cI cZ cS q5 q5bk q5nw q5to q5ne q5st q5pd q5cn q5ig q5ik H.size th si sn re ac fa fw bk (upd nw (Int32.toNatClampNeg s59_1) s59_0) to ne st pd cn ig ik nw_7 hc_8) (cwV 0 hts (kGood (kgV mG_367 mG_368 mG_369 mG_332 mG_361)) rfl rfl rfl ⟨rfl, hd_X5_cry⟩ ⟨Nat.le_of_ble_eq_true rfl, Nat.le_of_ble_eq_true rfl⟩) (kpV hK hN (hP.sub (ws' := [(q5, .inr (5, [.ref q5bk, .ref q5nw, .ref q5to, .int th, .ref q5ne, .int si, .ref q5st, .int sn, .ref q5pd, .int re, .int ac, .int fa, .int fw, .ref q5cn, .ref q5ig, .ref q5ik])), (q5bk, .inl (cI, 15, .inl bk)), (q5nw, .inl (cI, 15, .inl (upd nw (Int32.toNatClampNeg s59_1) s59_0))), (q5to, .inl (cI, 12, .inl to)), (q5ne, .inl (cI, 8, .inl ne)), (q5st, .inl (cI, 16, .inl st)), (q5pd, .inl (cI, 60, .inl pd)), (q5cn, .inl (cI, 3, .inl cn)), (q5ig, .inl (cI, 120, .inl ig)), (q5ik, .inl (cZ, 2, .inl ik))]) [0, 1, 2, 3, 4, 5, 6, 7, 8, 9] rfl) (hD.sub (ws' := [(q5, .inr (5, [.ref q5bk, .ref q5nw, .ref q5to, .int th, .ref q5ne, .int si, .ref q5st, .int sn, .ref q5pd, .int re, .int ac, .int fa, .int fw, .ref q5cn, .ref q5ig, .ref q5ik])), (q5bk, .inl (cI, 15, .inl bk)), (q5nw, .inl (cI, 15, .inl (upd nw (Int32.toNatClampNeg s59_1) s59_0))), (q5to, .inl (cI, 12, .inl to)), (q5ne, .inl (cI, 8, .inl ne)), (q5st, .inl (cI, 16, .inl st)), (q5pd, .inl (cI, 60, .inl pd)), (q5cn, .inl (cI, 3, .inl cn)), (q5ig, .inl (cI, 120, .inl ig)), (q5ik, .inl (cZ, 2, .inl ik))]) [0, 1, 2, 3, 4, 5, 6, 7, 8, 9] rfl rfl) rfl rfl rfl) rfl rfl hl.1 rfl (lv_room (Nat.le_of_ble_eq_true rfl)) dX5_shout_61 ⟨Nat.zero_le _, Nat.zero_le _⟩) hP hD hS hA [0, 1, 2, 3, 4, 5, 6, 7, 8, 9] [] [0, 1, 2, 3, 4, 5, 6, 7, 8, 9] rfl rfl rfl (by decide) rfl rfl (fun H locs hP hD hS => ?_)
            refine lv_aload_n hx hb dX5_shout_64 rfl (lv_at hl 0 rfl) ?_
            obtain ⟨r_9, hc_10, hs⟩ := ob1_e hs
            refine kci (wr := []) (ws' := [(q5, .inr (5, [.ref q5bk, .ref q5nw, .ref q5to, .int th, .ref q5ne, .int si, .ref q5st, .int sn, .ref q5pd, .int re, .int ac, .int fa, .int fw, .ref q5cn, .ref q5ig, .ref q5ik])), (q5bk, .inl (cI, 15, .inl bk)), (q5nw, .inl (cI, 15, .inl nw_7)), (q5to, .inl (cI, 12, .inl to)), (q5ne, .inl (cI, 8, .inl ne)), (q5st, .inl (cI, 16, .inl st)), (q5pd, .inl (cI, 60, .inl pd)), (q5cn, .inl (cI, 3, .inl cn)), (q5ig, .inl (cI, 120, .inl ig)), (q5ik, .inl (cZ, 2, .inl ik))]) (va_runV (As := []) (rest := []) ⟨hx, hb, hml, hown, hts⟩ (k_X5_downSet l dC dI cI cZ cS q5 q5bk q5nw q5to q5ne q5st q5pd q5cn q5ig q5ik H.size th si sn re ac fa fw bk nw_7 to ne st pd cn ig ik r_9 hc_10) (cwV 0 hts (kGood (kgV mG_385 mG_386 mG_387 mG_332 mG_374)) rfl rfl rfl ⟨rfl, hd_X5_downSet⟩ ⟨Nat.le_of_ble_eq_true rfl, Nat.le_of_ble_eq_true rfl⟩) (kpV hK hN (hP.sub (ws' := [(q5, .inr (5, [.ref q5bk, .ref q5nw, .ref q5to, .int th, .ref q5ne, .int si, .ref q5st, .int sn, .ref q5pd, .int re, .int ac, .int fa, .int fw, .ref q5cn, .ref q5ig, .ref q5ik])), (q5bk, .inl (cI, 15, .inl bk)), (q5nw, .inl (cI, 15, .inl nw_7)), (q5to, .inl (cI, 12, .inl to)), (q5ne, .inl (cI, 8, .inl ne)), (q5st, .inl (cI, 16, .inl st)), (q5pd, .inl (cI, 60, .inl pd)), (q5cn, .inl (cI, 3, .inl cn)), (q5ig, .inl (cI, 120, .inl ig)), (q5ik, .inl (cZ, 2, .inl ik))]) [0, 1, 2, 3, 4, 5, 6, 7, 8, 9] rfl) (hD.sub (ws' := [(q5, .inr (5, [.ref q5bk, .ref q5nw, .ref q5to, .int th, .ref q5ne, .int si, .ref q5st, .int sn, .ref q5pd, .int re, .int ac, .int fa, .int fw, .ref q5cn, .ref q5ig, .ref q5ik])), (q5bk, .inl (cI, 15, .inl bk)), (q5nw, .inl (cI, 15, .inl nw_7)), (q5to, .inl (cI, 12, .inl to)), (q5ne, .inl (cI, 8, .inl ne)), (q5st, .inl (cI, 16, .inl st)), (q5pd, .inl (cI, 60, .inl pd)), (q5cn, .inl (cI, 3, .inl cn)), (q5ig, .inl (cI, 120, .inl ig)), (q5ik, .inl (cZ, 2, .inl ik))]) [0, 1, 2, 3, 4, 5, 6, 7, 8, 9] rfl rfl) rfl rfl rfl) rfl rfl hl.1 rfl (lv_room (Nat.le_of_ble_eq_true rfl)) dX5_shout_65 ⟨Nat.zero_le _, Nat.zero_le _⟩) hP hD hS hA [0, 1, 2, 3, 4, 5, 6, 7, 8, 9] [] [0, 1, 2, 3, 4, 5, 6, 7, 8, 9] rfl rfl rfl (by decide) rfl rfl (fun H locs hP hD hS => ?_)
            refine lv_istore_n (lv' := [(3, .int r_9), (0, .ref q5), (1, .int v1), (2, .int v2)]) hx hb dX5_shout_68 rfl hl (by decide) rfl (fun ls hl => ?_)
            refine lv_iconst (v := 0) hx hb dX5_shout_69 (by decide) ?_
            refine lv_istore (lv' := [(4, .int (0 : Int32)), (3, .int r_9), (0, .ref q5), (1, .int v1), (2, .int v2)]) hx hb dX5_shout_70 hl (by decide) rfl (fun ls hl => ?_)
            have hL_72 : ∀ (n : Nat) (v2 : Int32) (v3 : Int32) (v4 : Int32) (nw : Ar) (H : Heap) (locs : List Loc) (ls : Array Slot), va_P (dC, dI) vwCl [(q5, .inr (5, [.ref q5bk, .ref q5nw, .ref q5to, .int th, .ref q5ne, .int si, .ref q5st, .int sn, .ref q5pd, .int re, .int ac, .int fa, .int fw, .ref q5cn, .ref q5ig, .ref q5ik])), (q5bk, .inl (cI, 15, .inl bk)), (q5nw, .inl (cI, 15, .inl nw)), (q5to, .inl (cI, 12, .inl to)), (q5ne, .inl (cI, 8, .inl ne)), (q5st, .inl (cI, 16, .inl st)), (q5pd, .inl (cI, 60, .inl pd)), (q5cn, .inl (cI, 3, .inl cn)), (q5ig, .inl (cI, 120, .inl ig)), (q5ik, .inl (cZ, 2, .inl ik))] H → va_D A [(q5, .inr (5, [.ref q5bk, .ref q5nw, .ref q5to, .int th, .ref q5ne, .int si, .ref q5st, .int sn, .ref q5pd, .int re, .int ac, .int fa, .int fw, .ref q5cn, .ref q5ig, .ref q5ik])), (q5bk, .inl (cI, 15, .inl bk)), (q5nw, .inl (cI, 15, .inl nw)), (q5to, .inl (cI, 12, .inl to)), (q5ne, .inl (cI, 8, .inl ne)), (q5st, .inl (cI, 16, .inl st)), (q5pd, .inl (cI, 60, .inl pd)), (q5cn, .inl (cI, 3, .inl cn)), (q5ig, .inl (cI, 120, .inl ig)), (q5ik, .inl (cZ, 2, .inl ik))] → va_S A s.heap H locs → lv_has ls 5 [(0, .ref q5), (1, .int v1), (2, .int v2), (3, .int v3), (4, .int v4)] → L_X5_shout_72 (L_X5_shout_15 v1 th bk n_15) v1 v2 v3 nw n v4 = some (r0, nw_o) → W p l e rm_X5_shout s m args below meth c H locs 0 0 Q (F0 m 72 ls []) := by
              intro n
              induction n with
              | zero =>
                intro v2 v3 v4 nw H locs ls hP hD hS hl hs
                replace hs : (none : Option (Int32 × Ar)) = some (r0, nw_o) := hs
                cases hs
              | succ n_72 ih_72 =>
                intro v2 v3 v4 nw H locs ls hP hD hS hl hs
                replace hs : b_X5_shout_72 (L_X5_shout_15 v1 th bk n_15) (L_X5_shout_72 (L_X5_shout_15 v1 th bk n_15) v1 v2 v3 nw n_72) v1 v2 v3 nw v4 = some (r0, nw_o) := hs
                unfold b_X5_shout_72 at hs
                refine lv_iload hx hb dX5_shout_72 (lv_at hl 4 rfl) ?_
                refine lv_bipush (v := 12) hx hb dX5_shout_74 (by decide) ?_
                refine lv_icmp_ge (tgt := 100) hx hb dX5_shout_76 (by decide) (fun c_11 => ?_) (fun c_11 => ?_)
                · replace hs := if_p c_11 hs
                  refine lv_iinc (v := (v2 + 1)) (lv' := [(2, .int (v2 + 1)), (0, .ref q5), (1, .int v1), (3, .int v3), (4, .int v4)]) hx hb dX5_shout_100 hl (k := 2) rfl rfl (by decide) rfl (fun ls hl => ?_)
                  refine lv_goto (tgt := 15) hx hb dX5_shout_103 (by decide) ?_
                  exact ih_15 (v2 + 1) nw _ _ _ hP hD hS (lv_sub hl [1, 2, 0] rfl) hs
                · replace hs := if_n c_11 hs
                  refine lv_iload hx hb dX5_shout_79 (lv_at hl 4 rfl) ?_
                  refine lv_iload_n hx hb dX5_shout_81 rfl (lv_at hl 1 rfl) ?_
                  obtain ⟨r_12, hc_13, hs⟩ := ob1_e hs
                  refine kpi (va_runS (As := [.int v4, .int v1]) (rest := []) ⟨hx, hb, hml, hown, hts⟩ (k_X5_stretch l v4 v1 r_12 hc_13) (va_cwS 2 hts (kGood (kgS mG_406 mG_407 mG_332 mG_405)) rfl rfl rfl hd_X5_stretch ⟨Nat.le_of_ble_eq_true rfl, Nat.le_of_ble_eq_true rfl⟩) preEq rfl rfl hl.1 rfl (lv_room (Nat.le_of_ble_eq_true rfl)) dX5_shout_82 ⟨Nat.zero_le _, Nat.zero_le _⟩) ?_
                  refine lv_iload_n hx hb dX5_shout_85 rfl (lv_at hl 3 rfl) ?_
                  refine lv_iconst (v := -1) hx hb dX5_shout_86 (by decide) ?_
                  refine lv_ixor hx hb dX5_shout_87 ?_
                  refine lv_iand hx hb dX5_shout_88 ?_
                  refine lv_if_ne (tgt := 94) hx hb dX5_shout_89 (by decide) (fun c_14 => ?_) (fun c_14 => ?_)
                  · replace hs := if_n c_14 hs
                    refine lv_iinc (v := (v4 + 1)) (lv' := [(4, .int (v4 + 1)), (0, .ref q5), (1, .int v1), (2, .int v2), (3, .int v3)]) hx hb dX5_shout_94 hl (k := 4) rfl rfl (by decide) rfl (fun ls hl => ?_)
                    refine lv_goto (tgt := 72) hx hb dX5_shout_97 (by decide) ?_
                    exact ih_72 v2 v3 (v4 + 1) nw _ _ _ hP hD hS (lv_sub hl [1, 2, 3, 4, 0] rfl) hs
                  · replace hs := if_p c_14 hs
                    refine lv_iload_n hx hb dX5_shout_92 rfl (lv_at hl 2 rfl) ?_
                    cases hs
                    exact hret _ _ _ _ hP hD hS (vp_nar_int _) dX5_shout_93
            exact hL_72 fu v2 r_9 (0 : Int32) nw_7 _ _ _ hP hD hS (lv_sub hl [2, 3, 4, 1, 0] rfl) hs
          refine lv_icmp_le (tgt := 50) hx hb dX5_shout_42 (by decide) (fun c_5 => ?_) (fun c_5 => ?_)
          · replace hs := if_p c_5 hs
            refine lv_aload_n hx hb dX5_shout_50 rfl (lv_at hl 0 rfl) ?_
            refine va_get (D := (dC, dI)) (ci := 5) (v := .ref q5nw) (C := RX5) (T := TX5) (N := 16) hx hb hts (fun w h => kg1 (iG_5 w h)) hown hK hP 0 rfl rfl 1 (by decide) (hts _ (kg1 mG_317)) (fun _ h9 => h9) rfl dX5_shout_51 ?_
            refine lv_bipush (v := 12) hx hb dX5_shout_54 (by decide) ?_
            refine kald hx hb hK hP 2 0 rfl rfl (j := 12) rfl (inb_e (i := (12 : Int32)) (n := 15) rfl) dX5_shout_56 ?_
            refine lv_iload_n hx hb dX5_shout_57 rfl (lv_at hl 2 rfl) ?_
            refine lv_iadd hx hb dX5_shout_58 ?_
            exact hJ_59 v2 ((nw_3 12) + v2) (12 : Int32) nw_3 _ _ _ hP hD hS (lv_sub hl [0, 1, 2] rfl) hs
          · replace hs := if_n c_5 hs
            refine lv_bipush (v := 99) hx hb dX5_shout_45 (by decide) ?_
            refine lv_goto (tgt := 59) hx hb dX5_shout_47 (by decide) ?_
            exact hJ_59 v2 (99 : Int32) (12 : Int32) nw_3 _ _ _ hP hD hS (lv_sub hl [0, 1, 2] rfl) hs
    exact hL_15 fu (0 : Int32) nw _ _ _ hP hD hS (lv_sub hl [1, 2, 0] rfl) hs
  · replace hs := if_p c_1 hs
    refine lv_bipush (v := -2) hx hb dX5_shout_10 (by decide) ?_
    cases hs
    exact hret _ _ _ _ hP hD hS (vp_nar_int _) dX5_shout_12
abbrev rm_X5_horns : Room := { frames := 3, cells := 0, slots := 0, locals := 66 }
theorem hd_X5_horns : yX5_horns.cls ≠ "java/lang/invoke/MethodHandle" ∧ yX5_horns.cls ≠ "java/lang/invoke/VarHandle" ∧ (parseMethodDescriptor yX5_horns.desc).map (fun d => d.parameters.length) = some 2 := by decide +kernel
set_option maxHeartbeats 4000000 in
set_option maxRecDepth 100000 in
theorem k_X5_horns (l : Launch) (dC : Nat → ClassId) (dI : Nat → Nat → Nat) (cI cZ cS : ClassId) (q5 q5bk q5nw q5to q5ne q5st q5pd q5cn q5ig q5ik : Nat) (sz : Nat) (th : Int32) (si : Int32) (sn : Int32) (re : Int32) (ac : Int32) (fa : Int32) (fw : Int32) (bk : Ar) (nw : Ar) (to : Ar) (ne : Ar) (st : Ar) (pd : Ar) (cn : Ar) (ig : Ar) (ik : Ar) (v1 : Int32) (v2 : Int32) (r0 : Int32) (nw_o : Ar) (hs : m_X5_horns v1 v2 th bk nw to = some (r0, nw_o)) : Met l yX5_horns (.code yX5_horns cX5_horns 10 (some .int) :: kG) rm_X5_horns (va_Pc [.ref q5, .int v1, .int v2] (kW (dC, dI) cI cZ cS [(q5, .inr (5, [.ref q5bk, .ref q5nw, .ref q5to, .int th, .ref q5ne, .int si, .ref q5st, .int sn, .ref q5pd, .int re, .int ac, .int fa, .int fw, .ref q5cn, .ref q5ig, .ref q5ik])), (q5bk, .inl (cI, 15, .inl bk)), (q5nw, .inl (cI, 15, .inl nw)), (q5to, .inl (cI, 12, .inl to)), (q5ne, .inl (cI, 8, .inl ne)), (q5st, .inl (cI, 16, .inl st)), (q5pd, .inl (cI, 60, .inl pd)), (q5cn, .inl (cI, 3, .inl cn)), (q5ig, .inl (cI, 120, .inl ig)), (q5ik, .inl (cZ, 2, .inl ik))] sz)) (kQi (dC, dI) [(q5, .inr (5, [.ref q5bk, .ref q5nw, .ref q5to, .int th, .ref q5ne, .int si, .ref q5st, .int sn, .ref q5pd, .int re, .int ac, .int fa, .int fw, .ref q5cn, .ref q5ig, .ref q5ik])), (q5bk, .inl (cI, 15, .inl bk)), (q5nw, .inl (cI, 15, .inl nw)), (q5to, .inl (cI, 12, .inl to)), (q5ne, .inl (cI, 8, .inl ne)), (q5st, .inl (cI, 16, .inl st)), (q5pd, .inl (cI, 60, .inl pd)), (q5cn, .inl (cI, 3, .inl cn)), (q5ig, .inl (cI, 120, .inl ig)), (q5ik, .inl (cZ, 2, .inl ik))] [(q5, .inr (5, [.ref q5bk, .ref q5nw, .ref q5to, .int th, .ref q5ne, .int si, .ref q5st, .int sn, .ref q5pd, .int re, .int ac, .int fa, .int fw, .ref q5cn, .ref q5ig, .ref q5ik])), (q5bk, .inl (cI, 15, .inl bk)), (q5nw, .inl (cI, 15, .inl nw_o)), (q5to, .inl (cI, 12, .inl to)), (q5ne, .inl (cI, 8, .inl ne)), (q5st, .inl (cI, 16, .inl st)), (q5pd, .inl (cI, 60, .inl pd)), (q5cn, .inl (cI, 3, .inl cn)), (q5ig, .inl (cI, 120, .inl ig)), (q5ik, .inl (cZ, 2, .inl ik))] sz r0) 0 0 (va_A [(q5, .inr (5, [.ref q5bk, .ref q5nw, .ref q5to, .int th, .ref q5ne, .int si, .ref q5st, .int sn, .ref q5pd, .int re, .int ac, .int fa, .int fw, .ref q5cn, .ref q5ig, .ref q5ik])), (q5bk, .inl (cI, 15, .inl bk)), (q5nw, .inl (cI, 15, .inl nw)), (q5to, .inl (cI, 12, .inl to)), (q5ne, .inl (cI, 8, .inl ne)), (q5st, .inl (cI, 16, .inl st)), (q5pd, .inl (cI, 60, .inl pd)), (q5cn, .inl (cI, 3, .inl cn)), (q5ig, .inl (cI, 120, .inl ig)), (q5ik, .inl (cZ, 2, .inl ik))] sz) := by
  refine kMi (own := RX5) (ty := .int) rfl (by decide) rfl ?_ (Nat.le_of_ble_eq_true rfl)
  intro p e s m args below meth c Q A CF hK hN hA hP hD hret ls hl
  have hS : va_S A s.heap s.heap [] := va_S.rf
  obtain ⟨hx, hb, hml, hown, hts⟩ := id CF
  have hl : lv_has ls 10 [(0, .ref q5), (1, .int v1), (2, .int v2)] := hl
  unfold m_X5_horns at hs
  refine lv_iload_n hx hb dX5_horns_0 rfl (lv_at hl 1 rfl) ?_
  refine lv_iconst (v := 0) hx hb dX5_horns_1 (by decide) ?_
  refine lv_iconst (v := 3) hx hb dX5_horns_2 (by decide) ?_
  refine kpi (va_runS (As := [.int v1, .int (0 : Int32), .int (3 : Int32)]) (rest := []) ⟨hx, hb, hml, hown, hts⟩ (k_X5_in l v1 (0 : Int32) (3 : Int32) _ rfl) (va_cwS 3 hts (kGood (kgS mG_330 mG_331 mG_332 mG_326)) rfl rfl rfl hd_X5_in ⟨Nat.le_of_ble_eq_true rfl, Nat.le_of_ble_eq_true rfl⟩) preEq rfl rfl hl.1 rfl (lv_room (Nat.le_of_ble_eq_true rfl)) dX5_horns_3 ⟨Nat.zero_le _, Nat.zero_le _⟩) ?_
  refine lv_if_eq (tgt := 18) hx hb dX5_horns_6 (by decide) (fun c_1 => ?_) (fun c_1 => ?_)
  · replace hs := if_p c_1 hs
    refine lv_bipush (v := -2) hx hb dX5_horns_18 (by decide) ?_
    cases hs
    exact hret _ _ _ _ hP hD hS (vp_nar_int _) dX5_horns_20
  · replace hs := if_n c_1 hs
    refine lv_iload_n hx hb dX5_horns_9 rfl (lv_at hl 2 rfl) ?_
    refine lv_iconst (v := 0) hx hb dX5_horns_10 (by decide) ?_
    refine lv_iconst (v := 1) hx hb dX5_horns_11 (by decide) ?_
    refine kpi (va_runS (As := [.int v2, .int (0 : Int32), .int (1 : Int32)]) (rest := []) ⟨hx, hb, hml, hown, hts⟩ (k_X5_in l v2 (0 : Int32) (1 : Int32) _ rfl) (va_cwS 3 hts (kGood (kgS mG_330 mG_331 mG_332 mG_326)) rfl rfl rfl hd_X5_in ⟨Nat.le_of_ble_eq_true rfl, Nat.le_of_ble_eq_true rfl⟩) preEq rfl rfl hl.1 rfl (lv_room (Nat.le_of_ble_eq_true rfl)) dX5_horns_12 ⟨Nat.zero_le _, Nat.zero_le _⟩) ?_
    refine lv_if_ne (tgt := 21) hx hb dX5_horns_15 (by decide) (fun c_2 => ?_) (fun c_2 => ?_)
    · replace hs := if_n c_2 hs
      refine lv_iconst (v := 1) hx hb dX5_horns_21 (by decide) ?_
      refine lv_istore_n (lv' := [(3, .int (1 : Int32)), (0, .ref q5), (1, .int v1), (2, .int v2)]) hx hb dX5_horns_22 rfl hl (by decide) rfl (fun ls hl => ?_)
      refine lv_iconst (v := 0) hx hb dX5_horns_23 (by decide) ?_
      refine lv_istore (lv' := [(4, .int (0 : Int32)), (3, .int (1 : Int32)), (0, .ref q5), (1, .int v1), (2, .int v2)]) hx hb dX5_horns_24 hl (by decide) rfl (fun ls hl => ?_)
      have hL_26 : ∀ (n : Nat) (v3 : Int32) (v4 : Int32) (nw : Ar) (H : Heap) (locs : List Loc) (ls : Array Slot), va_P (dC, dI) vwCl [(q5, .inr (5, [.ref q5bk, .ref q5nw, .ref q5to, .int th, .ref q5ne, .int si, .ref q5st, .int sn, .ref q5pd, .int re, .int ac, .int fa, .int fw, .ref q5cn, .ref q5ig, .ref q5ik])), (q5bk, .inl (cI, 15, .inl bk)), (q5nw, .inl (cI, 15, .inl nw)), (q5to, .inl (cI, 12, .inl to)), (q5ne, .inl (cI, 8, .inl ne)), (q5st, .inl (cI, 16, .inl st)), (q5pd, .inl (cI, 60, .inl pd)), (q5cn, .inl (cI, 3, .inl cn)), (q5ig, .inl (cI, 120, .inl ig)), (q5ik, .inl (cZ, 2, .inl ik))] H → va_D A [(q5, .inr (5, [.ref q5bk, .ref q5nw, .ref q5to, .int th, .ref q5ne, .int si, .ref q5st, .int sn, .ref q5pd, .int re, .int ac, .int fa, .int fw, .ref q5cn, .ref q5ig, .ref q5ik])), (q5bk, .inl (cI, 15, .inl bk)), (q5nw, .inl (cI, 15, .inl nw)), (q5to, .inl (cI, 12, .inl to)), (q5ne, .inl (cI, 8, .inl ne)), (q5st, .inl (cI, 16, .inl st)), (q5pd, .inl (cI, 60, .inl pd)), (q5cn, .inl (cI, 3, .inl cn)), (q5ig, .inl (cI, 120, .inl ig)), (q5ik, .inl (cZ, 2, .inl ik))] → va_S A s.heap H locs → lv_has ls 10 [(0, .ref q5), (1, .int v1), (2, .int v2), (3, .int v3), (4, .int v4)] → L_X5_horns_26 v1 v2 th bk nw to n v3 v4 = some (r0, nw_o) → W p l e rm_X5_horns s m args below meth c H locs 0 0 Q (F0 m 26 ls []) := by
        intro n
        induction n with
        | zero =>
          intro v3 v4 nw H locs ls hP hD hS hl hs
          replace hs : (none : Option (Int32 × Ar)) = some (r0, nw_o) := hs
          cases hs
        | succ n_26 ih_26 =>
          intro v3 v4 nw H locs ls hP hD hS hl hs
          replace hs : b_X5_horns_26  (L_X5_horns_26 v1 v2 th bk nw to n_26) v1 v2 th bk nw to v3 v4 = some (r0, nw_o) := hs
          unfold b_X5_horns_26 at hs
          refine lv_iload hx hb dX5_horns_26 (lv_at hl 4 rfl) ?_
          refine lv_iload_n hx hb dX5_horns_28 rfl (lv_at hl 1 rfl) ?_
          refine lv_icmp_ge (tgt := 43) hx hb dX5_horns_29 (by decide) (fun c_3 => ?_) (fun c_3 => ?_)
          · replace hs := if_p c_3 hs
            refine lv_iconst (v := -1) hx hb dX5_horns_43 (by decide) ?_
            refine lv_istore (lv' := [(4, .int (-1 : Int32)), (0, .ref q5), (1, .int v1), (2, .int v2), (3, .int v3)]) hx hb dX5_horns_44 hl (by decide) rfl (fun ls hl => ?_)
            refine lv_iconst (v := 0) hx hb dX5_horns_46 (by decide) ?_
            refine lv_istore (lv' := [(5, .int (0 : Int32)), (4, .int (-1 : Int32)), (0, .ref q5), (1, .int v1), (2, .int v2), (3, .int v3)]) hx hb dX5_horns_47 hl (by decide) rfl (fun ls hl => ?_)
            refine lv_iconst (v := 0) hx hb dX5_horns_49 (by decide) ?_
            refine lv_istore (lv' := [(6, .int (0 : Int32)), (5, .int (0 : Int32)), (4, .int (-1 : Int32)), (0, .ref q5), (1, .int v1), (2, .int v2), (3, .int v3)]) hx hb dX5_horns_50 hl (by decide) rfl (fun ls hl => ?_)
            have hL_52 : ∀ (n : Nat) (v3 : Int32) (v4 : Int32) (v5 : Int32) (v6 : Int32) (nw : Ar) (H : Heap) (locs : List Loc) (ls : Array Slot), va_P (dC, dI) vwCl [(q5, .inr (5, [.ref q5bk, .ref q5nw, .ref q5to, .int th, .ref q5ne, .int si, .ref q5st, .int sn, .ref q5pd, .int re, .int ac, .int fa, .int fw, .ref q5cn, .ref q5ig, .ref q5ik])), (q5bk, .inl (cI, 15, .inl bk)), (q5nw, .inl (cI, 15, .inl nw)), (q5to, .inl (cI, 12, .inl to)), (q5ne, .inl (cI, 8, .inl ne)), (q5st, .inl (cI, 16, .inl st)), (q5pd, .inl (cI, 60, .inl pd)), (q5cn, .inl (cI, 3, .inl cn)), (q5ig, .inl (cI, 120, .inl ig)), (q5ik, .inl (cZ, 2, .inl ik))] H → va_D A [(q5, .inr (5, [.ref q5bk, .ref q5nw, .ref q5to, .int th, .ref q5ne, .int si, .ref q5st, .int sn, .ref q5pd, .int re, .int ac, .int fa, .int fw, .ref q5cn, .ref q5ig, .ref q5ik])), (q5bk, .inl (cI, 15, .inl bk)), (q5nw, .inl (cI, 15, .inl nw)), (q5to, .inl (cI, 12, .inl to)), (q5ne, .inl (cI, 8, .inl ne)), (q5st, .inl (cI, 16, .inl st)), (q5pd, .inl (cI, 60, .inl pd)), (q5cn, .inl (cI, 3, .inl cn)), (q5ig, .inl (cI, 120, .inl ig)), (q5ik, .inl (cZ, 2, .inl ik))] → va_S A s.heap H locs → lv_has ls 10 [(0, .ref q5), (1, .int v1), (2, .int v2), (3, .int v3), (4, .int v4), (5, .int v5), (6, .int v6)] → L_X5_horns_52 v1 v2 v3 th bk to n v4 v5 v6 nw = some (r0, nw_o) → W p l e rm_X5_horns s m args below meth c H locs 0 0 Q (F0 m 52 ls []) := by
              intro n
              induction n with
              | zero =>
                intro v3 v4 v5 v6 nw H locs ls hP hD hS hl hs
                replace hs : (none : Option (Int32 × Ar)) = some (r0, nw_o) := hs
                cases hs
              | succ n_52 ih_52 =>
                intro v3 v4 v5 v6 nw H locs ls hP hD hS hl hs
                replace hs : b_X5_horns_52  (L_X5_horns_52 v1 v2 v3 th bk to n_52) v1 v2 v3 th bk to v4 v5 v6 nw = some (r0, nw_o) := hs
                unfold b_X5_horns_52 at hs
                refine lv_iload hx hb dX5_horns_52 (lv_at hl 6 rfl) ?_
                refine lv_iload_n hx hb dX5_horns_54 rfl (lv_at hl 3 rfl) ?_
                refine lv_icmp_ge (tgt := 154) hx hb dX5_horns_55 (by decide) (fun c_4 => ?_) (fun c_4 => ?_)
                · replace hs := if_p c_4 hs
                  refine lv_iload_n hx hb dX5_horns_154 rfl (lv_at hl 2 rfl) ?_
                  refine lv_if_ne (tgt := 163) hx hb dX5_horns_155 (by decide) (fun c_5 => ?_) (fun c_5 => ?_)
                  · replace hs := if_n c_5 hs
                    refine lv_iload hx hb dX5_horns_163 (lv_at hl 5 rfl) ?_
                    cases hs
                    exact hret _ _ _ _ hP hD hS (vp_nar_int _) dX5_horns_165
                  · replace hs := if_p c_5 hs
                    refine lv_iload hx hb dX5_horns_158 (lv_at hl 4 rfl) ?_
                    refine lv_goto (tgt := 165) hx hb dX5_horns_160 (by decide) ?_
                    cases hs
                    exact hret _ _ _ _ hP hD hS (vp_nar_int _) dX5_horns_165
                · replace hs := if_n c_4 hs
                  refine lv_aload_n hx hb dX5_horns_58 rfl (lv_at hl 0 rfl) ?_
                  obtain ⟨nw_6, hc_7, hs⟩ := ob1_e hs
                  refine kcv (wr := []) (ws' := [(q5, .inr (5, [.ref q5bk, .ref q5nw, .ref q5to, .int th, .ref q5ne, .int si, .ref q5st, .int sn, .ref q5pd, .int re, .int ac, .int fa, .int fw, .ref q5cn, .ref q5ig, .ref q5ik])), (q5bk, .inl (cI, 15, .inl bk)), (q5nw, .inl (cI, 15, .inl nw_6)), (q5to, .inl (cI, 12, .inl to)), (q5ne, .inl (cI, 8, .inl ne)), (q5st, .inl (cI, 16, .inl st)), (q5pd, .inl (cI, 60, .inl pd)), (q5cn, .inl (cI, 3, .inl cn)), (q5ig, .inl (cI, 120, .inl ig)), (q5ik, .inl (cZ, 2, .inl ik))]) (va_runV (As := []) (rest := []) ⟨hx, hb, hml, hown, hts⟩ (k_X5_asNow l dC dI cI cZ cS q5 q5bk q5nw q5to q5ne q5st q5pd q5cn q5ig q5ik H.size th si sn re ac fa fw bk nw to ne st pd cn ig ik nw_6 hc_7) (cwV 0 hts (kGood (kgV mG_379 mG_380 mG_381 mG_332 mG_350)) rfl rfl rfl ⟨rfl, hd_X5_asNow⟩ ⟨Nat.le_of_ble_eq_true rfl, Nat.le_of_ble_eq_true rfl⟩) (kpV hK hN (hP.sub (ws' := [(q5, .inr (5, [.ref q5bk, .ref q5nw, .ref q5to, .int th, .ref q5ne, .int si, .ref q5st, .int sn, .ref q5pd, .int re, .int ac, .int fa, .int fw, .ref q5cn, .ref q5ig, .ref q5ik])), (q5bk, .inl (cI, 15, .inl bk)), (q5nw, .inl (cI, 15, .inl nw)), (q5to, .inl (cI, 12, .inl to)), (q5ne, .inl (cI, 8, .inl ne)), (q5st, .inl (cI, 16, .inl st)), (q5pd, .inl (cI, 60, .inl pd)), (q5cn, .inl (cI, 3, .inl cn)), (q5ig, .inl (cI, 120, .inl ig)), (q5ik, .inl (cZ, 2, .inl ik))]) [0, 1, 2, 3, 4, 5, 6, 7, 8, 9] rfl) (hD.sub (ws' := [(q5, .inr (5, [.ref q5bk, .ref q5nw, .ref q5to, .int th, .ref q5ne, .int si, .ref q5st, .int sn, .ref q5pd, .int re, .int ac, .int fa, .int fw, .ref q5cn, .ref q5ig, .ref q5ik])), (q5bk, .inl (cI, 15, .inl bk)), (q5nw, .inl (cI, 15, .inl nw)), (q5to, .inl (cI, 12, .inl to)), (q5ne, .inl (cI, 8, .inl ne)), (q5st, .inl (cI, 16, .inl st)), (q5pd, .inl (cI, 60, .inl pd)), (q5cn, .inl (cI, 3, .inl cn)), (q5ig, .inl (cI, 120, .inl ig)), (q5ik, .inl (cZ, 2, .inl ik))]) [0, 1, 2, 3, 4, 5, 6, 7, 8, 9] rfl rfl) rfl rfl rfl) rfl rfl hl.1 rfl (lv_room (Nat.le_of_ble_eq_true rfl)) dX5_horns_59 ⟨Nat.zero_le _, Nat.zero_le _⟩) hP hD hS hA [0, 1, 2, 3, 4, 5, 6, 7, 8, 9] [] [0, 1, 2, 3, 4, 5, 6, 7, 8, 9] rfl rfl rfl (by decide) rfl rfl (fun H locs hP hD hS => ?_)
                  refine lv_iload hx hb dX5_horns_62 (lv_at hl 6 rfl) ?_
                  refine lv_istore (lv' := [(7, .int v6), (0, .ref q5), (1, .int v1), (2, .int v2), (3, .int v3), (4, .int v4), (5, .int v5), (6, .int v6)]) hx hb dX5_horns_64 hl (by decide) rfl (fun ls hl => ?_)
                  refine lv_iload_n hx hb dX5_horns_66 rfl (lv_at hl 4 rfl) ?_
                  refine lv_istore (lv' := [(8, .int v3), (7, .int v6), (0, .ref q5), (1, .int v1), (2, .int v2), (3, .int v3), (4, .int v4), (5, .int v5), (6, .int v6)]) hx hb dX5_horns_67 hl (by decide) rfl (fun ls hl => ?_)
                  refine lv_iconst (v := 0) hx hb dX5_horns_69 (by decide) ?_
                  refine lv_istore (lv' := [(9, .int (0 : Int32)), (8, .int v3), (7, .int v6), (0, .ref q5), (1, .int v1), (2, .int v2), (3, .int v3), (4, .int v4), (5, .int v5), (6, .int v6)]) hx hb dX5_horns_70 hl (by decide) rfl (fun ls hl => ?_)
                  have hL_72 : ∀ (n : Nat) (v4 : Int32) (v5 : Int32) (v6 : Int32) (v7 : Int32) (v8 : Int32) (v9 : Int32) (nw : Ar) (H : Heap) (locs : List Loc) (ls : Array Slot), va_P (dC, dI) vwCl [(q5, .inr (5, [.ref q5bk, .ref q5nw, .ref q5to, .int th, .ref q5ne, .int si, .ref q5st, .int sn, .ref q5pd, .int re, .int ac, .int fa, .int fw, .ref q5cn, .ref q5ig, .ref q5ik])), (q5bk, .inl (cI, 15, .inl bk)), (q5nw, .inl (cI, 15, .inl nw)), (q5to, .inl (cI, 12, .inl to)), (q5ne, .inl (cI, 8, .inl ne)), (q5st, .inl (cI, 16, .inl st)), (q5pd, .inl (cI, 60, .inl pd)), (q5cn, .inl (cI, 3, .inl cn)), (q5ig, .inl (cI, 120, .inl ig)), (q5ik, .inl (cZ, 2, .inl ik))] H → va_D A [(q5, .inr (5, [.ref q5bk, .ref q5nw, .ref q5to, .int th, .ref q5ne, .int si, .ref q5st, .int sn, .ref q5pd, .int re, .int ac, .int fa, .int fw, .ref q5cn, .ref q5ig, .ref q5ik])), (q5bk, .inl (cI, 15, .inl bk)), (q5nw, .inl (cI, 15, .inl nw)), (q5to, .inl (cI, 12, .inl to)), (q5ne, .inl (cI, 8, .inl ne)), (q5st, .inl (cI, 16, .inl st)), (q5pd, .inl (cI, 60, .inl pd)), (q5cn, .inl (cI, 3, .inl cn)), (q5ig, .inl (cI, 120, .inl ig)), (q5ik, .inl (cZ, 2, .inl ik))] → va_S A s.heap H locs → lv_has ls 10 [(0, .ref q5), (1, .int v1), (2, .int v2), (3, .int v3), (4, .int v4), (5, .int v5), (6, .int v6), (7, .int v7), (8, .int v8), (9, .int v9)] → L_X5_horns_72 (L_X5_horns_52 v1 v2 v3 th bk to n_52) v1 v4 v5 v6 th to n v7 v8 v9 nw = some (r0, nw_o) → W p l e rm_X5_horns s m args below meth c H locs 0 0 Q (F0 m 72 ls []) := by
                    intro n
                    induction n with
                    | zero =>
                      intro v4 v5 v6 v7 v8 v9 nw H locs ls hP hD hS hl hs
                      replace hs : (none : Option (Int32 × Ar)) = some (r0, nw_o) := hs
                      cases hs
                    | succ n_72 ih_72 =>
                      intro v4 v5 v6 v7 v8 v9 nw H locs ls hP hD hS hl hs
                      replace hs : b_X5_horns_72 (L_X5_horns_52 v1 v2 v3 th bk to n_52) (L_X5_horns_72 (L_X5_horns_52 v1 v2 v3 th bk to n_52) v1 v4 v5 v6 th to n_72) v1 v4 v5 v6 th to v7 v8 v9 nw = some (r0, nw_o) := hs
                      unfold b_X5_horns_72 at hs
                      refine lv_iload hx hb dX5_horns_72 (lv_at hl 9 rfl) ?_
                      refine lv_iload_n hx hb dX5_horns_74 rfl (lv_at hl 1 rfl) ?_
                      refine lv_icmp_ge (tgt := 107) hx hb dX5_horns_75 (by decide) (fun c_8 => ?_) (fun c_8 => ?_)
                      · replace hs := if_p c_8 hs
                        refine lv_aload_n hx hb dX5_horns_107 rfl (lv_at hl 0 rfl) ?_
                        obtain ⟨r_9, hc_10, hs⟩ := ob1_e hs
                        refine kci (wr := []) (ws' := [(q5, .inr (5, [.ref q5bk, .ref q5nw, .ref q5to, .int th, .ref q5ne, .int si, .ref q5st, .int sn, .ref q5pd, .int re, .int ac, .int fa, .int fw, .ref q5cn, .ref q5ig, .ref q5ik])), (q5bk, .inl (cI, 15, .inl bk)), (q5nw, .inl (cI, 15, .inl nw)), (q5to, .inl (cI, 12, .inl to)), (q5ne, .inl (cI, 8, .inl ne)), (q5st, .inl (cI, 16, .inl st)), (q5pd, .inl (cI, 60, .inl pd)), (q5cn, .inl (cI, 3, .inl cn)), (q5ig, .inl (cI, 120, .inl ig)), (q5ik, .inl (cZ, 2, .inl ik))]) (va_runV (As := []) (rest := []) ⟨hx, hb, hml, hown, hts⟩ (k_X5_downSet l dC dI cI cZ cS q5 q5bk q5nw q5to q5ne q5st q5pd q5cn q5ig q5ik H.size th si sn re ac fa fw bk nw to ne st pd cn ig ik r_9 hc_10) (cwV 0 hts (kGood (kgV mG_385 mG_386 mG_387 mG_332 mG_374)) rfl rfl rfl ⟨rfl, hd_X5_downSet⟩ ⟨Nat.le_of_ble_eq_true rfl, Nat.le_of_ble_eq_true rfl⟩) (kpV hK hN (hP.sub (ws' := [(q5, .inr (5, [.ref q5bk, .ref q5nw, .ref q5to, .int th, .ref q5ne, .int si, .ref q5st, .int sn, .ref q5pd, .int re, .int ac, .int fa, .int fw, .ref q5cn, .ref q5ig, .ref q5ik])), (q5bk, .inl (cI, 15, .inl bk)), (q5nw, .inl (cI, 15, .inl nw)), (q5to, .inl (cI, 12, .inl to)), (q5ne, .inl (cI, 8, .inl ne)), (q5st, .inl (cI, 16, .inl st)), (q5pd, .inl (cI, 60, .inl pd)), (q5cn, .inl (cI, 3, .inl cn)), (q5ig, .inl (cI, 120, .inl ig)), (q5ik, .inl (cZ, 2, .inl ik))]) [0, 1, 2, 3, 4, 5, 6, 7, 8, 9] rfl) (hD.sub (ws' := [(q5, .inr (5, [.ref q5bk, .ref q5nw, .ref q5to, .int th, .ref q5ne, .int si, .ref q5st, .int sn, .ref q5pd, .int re, .int ac, .int fa, .int fw, .ref q5cn, .ref q5ig, .ref q5ik])), (q5bk, .inl (cI, 15, .inl bk)), (q5nw, .inl (cI, 15, .inl nw)), (q5to, .inl (cI, 12, .inl to)), (q5ne, .inl (cI, 8, .inl ne)), (q5st, .inl (cI, 16, .inl st)), (q5pd, .inl (cI, 60, .inl pd)), (q5cn, .inl (cI, 3, .inl cn)), (q5ig, .inl (cI, 120, .inl ig)), (q5ik, .inl (cZ, 2, .inl ik))]) [0, 1, 2, 3, 4, 5, 6, 7, 8, 9] rfl rfl) rfl rfl rfl) rfl rfl hl.1 rfl (lv_room (Nat.le_of_ble_eq_true rfl)) dX5_horns_108 ⟨Nat.zero_le _, Nat.zero_le _⟩) hP hD hS hA [0, 1, 2, 3, 4, 5, 6, 7, 8, 9] [] [0, 1, 2, 3, 4, 5, 6, 7, 8, 9] rfl rfl rfl (by decide) rfl rfl (fun H locs hP hD hS => ?_)
                        obtain ⟨r_11, hc_12, hs⟩ := ob1_e hs
                        refine kpi (va_runS (As := [.int r_9]) (rest := []) ⟨hx, hb, hml, hown, hts⟩ (k_X5_bits l r_9 r_11 hc_12) (va_cwS 1 hts (kGood (kgS mG_338 mG_339 mG_332 mG_328)) rfl rfl rfl hd_X5_bits ⟨Nat.le_of_ble_eq_true rfl, Nat.le_of_ble_eq_true rfl⟩) preEq rfl rfl hl.1 rfl (lv_room (Nat.le_of_ble_eq_true rfl)) dX5_horns_111 ⟨Nat.zero_le _, Nat.zero_le _⟩) ?_
                        refine lv_istore (lv' := [(9, .int r_11), (0, .ref q5), (1, .int v1), (2, .int v2), (3, .int v3), (4, .int v4), (5, .int v5), (6, .int v6), (7, .int v7), (8, .int v8)]) hx hb dX5_horns_114 hl (by decide) rfl (fun ls hl => ?_)
                        refine lv_iload hx hb dX5_horns_116 (lv_at hl 0 rfl) ?_
                        refine lv_iload hx hb dX5_horns_118 (lv_at hl 5 rfl) ?_
                        have hJ_130 : ∀ (v4 : Int32) (v6 : Int32) (v9 : Int32) (s130_0 : Int32) (nw : Ar) (H : Heap) (locs : List Loc) (ls : Array Slot), va_P (dC, dI) vwCl [(q5, .inr (5, [.ref q5bk, .ref q5nw, .ref q5to, .int th, .ref q5ne, .int si, .ref q5st, .int sn, .ref q5pd, .int re, .int ac, .int fa, .int fw, .ref q5cn, .ref q5ig, .ref q5ik])), (q5bk, .inl (cI, 15, .inl bk)), (q5nw, .inl (cI, 15, .inl nw)), (q5to, .inl (cI, 12, .inl to)), (q5ne, .inl (cI, 8, .inl ne)), (q5st, .inl (cI, 16, .inl st)), (q5pd, .inl (cI, 60, .inl pd)), (q5cn, .inl (cI, 3, .inl cn)), (q5ig, .inl (cI, 120, .inl ig)), (q5ik, .inl (cZ, 2, .inl ik))] H → va_D A [(q5, .inr (5, [.ref q5bk, .ref q5nw, .ref q5to, .int th, .ref q5ne, .int si, .ref q5st, .int sn, .ref q5pd, .int re, .int ac, .int fa, .int fw, .ref q5cn, .ref q5ig, .ref q5ik])), (q5bk, .inl (cI, 15, .inl bk)), (q5nw, .inl (cI, 15, .inl nw)), (q5to, .inl (cI, 12, .inl to)), (q5ne, .inl (cI, 8, .inl ne)), (q5st, .inl (cI, 16, .inl st)), (q5pd, .inl (cI, 60, .inl pd)), (q5cn, .inl (cI, 3, .inl cn)), (q5ig, .inl (cI, 120, .inl ig)), (q5ik, .inl (cZ, 2, .inl ik))] → va_S A s.heap H locs → lv_has ls 10 [(0, .ref q5), (1, .int v1), (2, .int v2), (3, .int v3), (4, .int v4), (6, .int v6), (9, .int v9)] → j_X5_horns_130 (L_X5_horns_52 v1 v2 v3 th bk to n_52) v4 v6 v9 s130_0 nw = some (r0, nw_o) → W p l e rm_X5_horns s m args below meth c H locs 0 0 Q (F0 m 130 ls [.int s130_0]) := by
                          intro v4 v6 v9 s130_0 nw H locs ls hP hD hS hl hs
                          unfold j_X5_horns_130 at hs
                          refine lv_istore (lv' := [(5, .int s130_0), (0, .ref q5), (1, .int v1), (2, .int v2), (3, .int v3), (4, .int v4), (6, .int v6), (9, .int v9)]) hx hb dX5_horns_130 hl (by decide) rfl (fun ls hl => ?_)
                          refine lv_iload hx hb dX5_horns_132 (lv_at hl 7 rfl) ?_
                          refine lv_iload hx hb dX5_horns_134 (lv_at hl 5 rfl) ?_
                          refine lv_icmp_le (tgt := 144) hx hb dX5_horns_136 (by decide) (fun c_18 => ?_) (fun c_18 => ?_)
                          · replace hs := if_p c_18 hs
                            refine lv_iload hx hb dX5_horns_144 (lv_at hl 5 rfl) ?_
                            refine lv_istore (lv' := [(4, .int v4), (5, .int s130_0), (0, .ref q5), (1, .int v1), (2, .int v2), (3, .int v3), (6, .int v6), (9, .int v9)]) hx hb dX5_horns_146 hl (by decide) rfl (fun ls hl => ?_)
                            refine lv_iinc (v := (v6 + 1)) (lv' := [(6, .int (v6 + 1)), (4, .int v4), (5, .int s130_0), (0, .ref q5), (1, .int v1), (2, .int v2), (3, .int v3), (9, .int v9)]) hx hb dX5_horns_148 hl (k := 6) rfl rfl (by decide) rfl (fun ls hl => ?_)
                            refine lv_goto (tgt := 52) hx hb dX5_horns_151 (by decide) ?_
                            exact ih_52 v3 v4 s130_0 (v6 + 1) nw _ _ _ hP hD hS (lv_sub hl [3, 4, 5, 6, 1, 2, 0] rfl) hs
                          · replace hs := if_n c_18 hs
                            refine lv_iload hx hb dX5_horns_139 (lv_at hl 7 rfl) ?_
                            refine lv_goto (tgt := 146) hx hb dX5_horns_141 (by decide) ?_
                            refine lv_istore (lv' := [(4, .int v9), (5, .int s130_0), (0, .ref q5), (1, .int v1), (2, .int v2), (3, .int v3), (6, .int v6), (9, .int v9)]) hx hb dX5_horns_146 hl (by decide) rfl (fun ls hl => ?_)
                            refine lv_iinc (v := (v6 + 1)) (lv' := [(6, .int (v6 + 1)), (4, .int v9), (5, .int s130_0), (0, .ref q5), (1, .int v1), (2, .int v2), (3, .int v3), (9, .int v9)]) hx hb dX5_horns_148 hl (k := 6) rfl rfl (by decide) rfl (fun ls hl => ?_)
                            refine lv_goto (tgt := 52) hx hb dX5_horns_151 (by decide) ?_
                            exact ih_52 v3 v9 s130_0 (v6 + 1) nw _ _ _ hP hD hS (lv_sub hl [3, 4, 5, 6, 1, 2, 0] rfl) hs
                        refine lv_icmp_le (tgt := 128) hx hb dX5_horns_120 (by decide) (fun c_13 => ?_) (fun c_13 => ?_)
                        · replace hs := if_p c_13 hs
                          refine lv_iload hx hb dX5_horns_128 (lv_at hl 6 rfl) ?_
                          exact hJ_130 v4 v6 r_11 v5 nw _ _ _ hP hD hS (lv_sub hl [1, 2, 3, 4, 5, 7, 0] rfl) hs
                        · replace hs := if_n c_13 hs
                          refine lv_iload hx hb dX5_horns_123 (lv_at hl 7 rfl) ?_
                          refine lv_goto (tgt := 130) hx hb dX5_horns_125 (by decide) ?_
                          exact hJ_130 v4 v6 r_11 v6 nw _ _ _ hP hD hS (lv_sub hl [1, 2, 3, 4, 5, 7, 0] rfl) hs
                      · replace hs := if_n c_8 hs
                        refine lv_iload hx hb dX5_horns_78 (lv_at hl 8 rfl) ?_
                        refine lv_bipush (v := 10) hx hb dX5_horns_80 (by decide) ?_
                        refine lv_idiv hx hb dX5_horns_82 (by decide) ?_
                        refine lv_istore (lv' := [(8, .int (v8 / (10 : Int32))), (0, .ref q5), (1, .int v1), (2, .int v2), (3, .int v3), (4, .int v4), (5, .int v5), (6, .int v6), (7, .int v7), (9, .int v9)]) hx hb dX5_horns_83 hl (by decide) rfl (fun ls hl => ?_)
                        refine lv_aload_n hx hb dX5_horns_85 rfl (lv_at hl 1 rfl) ?_
                        refine lv_iload hx hb dX5_horns_86 (lv_at hl 8 rfl) ?_
                        refine lv_iload hx hb dX5_horns_88 (lv_at hl 0 rfl) ?_
                        obtain ⟨hg_14, hs⟩ := gd_e hs
                        refine lv_idiv hx hb dX5_horns_90 (nz_e hg_14) ?_
                        obtain ⟨nw_15, hc_16, hs⟩ := ob1_e hs
                        refine kcv (wr := []) (ws' := [(q5, .inr (5, [.ref q5bk, .ref q5nw, .ref q5to, .int th, .ref q5ne, .int si, .ref q5st, .int sn, .ref q5pd, .int re, .int ac, .int fa, .int fw, .ref q5cn, .ref q5ig, .ref q5ik])), (q5bk, .inl (cI, 15, .inl bk)), (q5nw, .inl (cI, 15, .inl nw_15)), (q5to, .inl (cI, 12, .inl to)), (q5ne, .inl (cI, 8, .inl ne)), (q5st, .inl (cI, 16, .inl st)), (q5pd, .inl (cI, 60, .inl pd)), (q5cn, .inl (cI, 3, .inl cn)), (q5ig, .inl (cI, 120, .inl ig)), (q5ik, .inl (cZ, 2, .inl ik))]) (va_runV (As := [.int (v7 / (v8 / (10 : Int32)))]) (rest := []) ⟨hx, hb, hml, hown, hts⟩ (k_X5_blow l dC dI cI cZ cS q5 q5bk q5nw q5to q5ne q5st q5pd q5cn q5ig q5ik H.size th si sn re ac fa fw bk nw to ne st pd cn ig ik (v7 / (v8 / (10 : Int32))) nw_15 hc_16) (cwV 1 hts (kGood (kgV mG_364 mG_365 mG_366 mG_332 mG_355)) rfl rfl rfl ⟨rfl, hd_X5_blow⟩ ⟨Nat.le_of_ble_eq_true rfl, Nat.le_of_ble_eq_true rfl⟩) (kpV hK hN (hP.sub (ws' := [(q5, .inr (5, [.ref q5bk, .ref q5nw, .ref q5to, .int th, .ref q5ne, .int si, .ref q5st, .int sn, .ref q5pd, .int re, .int ac, .int fa, .int fw, .ref q5cn, .ref q5ig, .ref q5ik])), (q5bk, .inl (cI, 15, .inl bk)), (q5nw, .inl (cI, 15, .inl nw)), (q5to, .inl (cI, 12, .inl to)), (q5ne, .inl (cI, 8, .inl ne)), (q5st, .inl (cI, 16, .inl st)), (q5pd, .inl (cI, 60, .inl pd)), (q5cn, .inl (cI, 3, .inl cn)), (q5ig, .inl (cI, 120, .inl ig)), (q5ik, .inl (cZ, 2, .inl ik))]) [0, 1, 2, 3, 4, 5, 6, 7, 8, 9] rfl) (hD.sub (ws' := [(q5, .inr (5, [.ref q5bk, .ref q5nw, .ref q5to, .int th, .ref q5ne, .int si, .ref q5st, .int sn, .ref q5pd, .int re, .int ac, .int fa, .int fw, .ref q5cn, .ref q5ig, .ref q5ik])), (q5bk, .inl (cI, 15, .inl bk)), (q5nw, .inl (cI, 15, .inl nw)), (q5to, .inl (cI, 12, .inl to)), (q5ne, .inl (cI, 8, .inl ne)), (q5st, .inl (cI, 16, .inl st)), (q5pd, .inl (cI, 60, .inl pd)), (q5cn, .inl (cI, 3, .inl cn)), (q5ig, .inl (cI, 120, .inl ig)), (q5ik, .inl (cZ, 2, .inl ik))]) [0, 1, 2, 3, 4, 5, 6, 7, 8, 9] rfl rfl) rfl rfl rfl) rfl rfl hl.1 rfl (lv_room (Nat.le_of_ble_eq_true rfl)) dX5_horns_91 ⟨Nat.zero_le _, Nat.zero_le _⟩) hP hD hS hA [0, 1, 2, 3, 4, 5, 6, 7, 8, 9] [] [0, 1, 2, 3, 4, 5, 6, 7, 8, 9] rfl rfl rfl (by decide) rfl rfl (fun H locs hP hD hS => ?_)
                        refine lv_iload hx hb dX5_horns_94 (lv_at hl 8 rfl) ?_
                        refine lv_iload hx hb dX5_horns_96 (lv_at hl 0 rfl) ?_
                        obtain ⟨hg_17, hs⟩ := gd_e hs
                        refine lv_irem hx hb dX5_horns_98 (nz_e hg_17) ?_
                        refine lv_istore (lv' := [(7, .int (irem v7 (v8 / (10 : Int32)))), (8, .int (v8 / (10 : Int32))), (0, .ref q5), (1, .int v1), (2, .int v2), (3, .int v3), (4, .int v4), (5, .int v5), (6, .int v6), (9, .int v9)]) hx hb dX5_horns_99 hl (by decide) rfl (fun ls hl => ?_)
                        refine lv_iinc (v := (v9 + 1)) (lv' := [(9, .int (v9 + 1)), (7, .int (irem v7 (v8 / (10 : Int32)))), (8, .int (v8 / (10 : Int32))), (0, .ref q5), (1, .int v1), (2, .int v2), (3, .int v3), (4, .int v4), (5, .int v5), (6, .int v6)]) hx hb dX5_horns_101 hl (k := 9) rfl rfl (by decide) rfl (fun ls hl => ?_)
                        refine lv_goto (tgt := 72) hx hb dX5_horns_104 (by decide) ?_
                        exact ih_72 v4 v5 v6 (irem v7 (v8 / (10 : Int32))) (v8 / (10 : Int32)) (v9 + 1) nw_15 _ _ _ hP hD hS (lv_sub hl [3, 4, 5, 6, 7, 8, 9, 1, 2, 0] rfl) hs
                  exact hL_72 fu v4 v5 v6 v6 v3 (0 : Int32) nw_6 _ _ _ hP hD hS (lv_sub hl [3, 4, 5, 6, 7, 8, 9, 2, 1, 0] rfl) hs
            exact hL_52 fu v3 (-1 : Int32) (0 : Int32) (0 : Int32) nw _ _ _ hP hD hS (lv_sub hl [3, 4, 5, 6, 2, 1, 0] rfl) hs
          · replace hs := if_n c_3 hs
            refine lv_iload_n hx hb dX5_horns_32 rfl (lv_at hl 3 rfl) ?_
            refine lv_bipush (v := 10) hx hb dX5_horns_33 (by decide) ?_
            refine lv_imul hx hb dX5_horns_35 ?_
            refine lv_istore_n (lv' := [(3, .int (v3 * (10 : Int32))), (0, .ref q5), (1, .int v1), (2, .int v2), (4, .int v4)]) hx hb dX5_horns_36 rfl hl (by decide) rfl (fun ls hl => ?_)
            refine lv_iinc (v := (v4 + 1)) (lv' := [(4, .int (v4 + 1)), (3, .int (v3 * (10 : Int32))), (0, .ref q5), (1, .int v1), (2, .int v2)]) hx hb dX5_horns_37 hl (k := 4) rfl rfl (by decide) rfl (fun ls hl => ?_)
            refine lv_goto (tgt := 26) hx hb dX5_horns_40 (by decide) ?_
            exact ih_26 (v3 * (10 : Int32)) (v4 + 1) nw _ _ _ hP hD hS (lv_sub hl [2, 3, 4, 1, 0] rfl) hs
      exact hL_26 fu (1 : Int32) (0 : Int32) nw _ _ _ hP hD hS (lv_sub hl [2, 3, 4, 1, 0] rfl) hs
    · replace hs := if_p c_2 hs
      refine lv_bipush (v := -2) hx hb dX5_horns_18 (by decide) ?_
      cases hs
      exact hret _ _ _ _ hP hD hS (vp_nar_int _) dX5_horns_20
abbrev rm_X5_weakest : Room := { frames := 1, cells := 0, slots := 0, locals := 22 }
theorem hd_X5_weakest : yX5_weakest.cls ≠ "java/lang/invoke/MethodHandle" ∧ yX5_weakest.cls ≠ "java/lang/invoke/VarHandle" ∧ (parseMethodDescriptor yX5_weakest.desc).map (fun d => d.parameters.length) = some 2 := by decide +kernel
set_option maxHeartbeats 4000000 in
set_option maxRecDepth 100000 in
theorem k_X5_weakest (l : Launch) (dC : Nat → ClassId) (dI : Nat → Nat → Nat) (cI cZ cS : ClassId) (q5 q5bk q5nw q5to q5ne q5st q5pd q5cn q5ig q5ik : Nat) (sz : Nat) (th : Int32) (si : Int32) (sn : Int32) (re : Int32) (ac : Int32) (fa : Int32) (fw : Int32) (bk : Ar) (nw : Ar) (to : Ar) (ne : Ar) (st : Ar) (pd : Ar) (cn : Ar) (ig : Ar) (ik : Ar) (v1 : Int32) (v2 : Int32) (r0 : Int32) (hs : m_X5_weakest v1 v2 bk = some r0) : Met l yX5_weakest (.code yX5_weakest cX5_weakest 8 (some .int) :: kG) rm_X5_weakest (va_Pc [.ref q5, .int v1, .int v2] (kW (dC, dI) cI cZ cS [(q5, .inr (5, [.ref q5bk, .ref q5nw, .ref q5to, .int th, .ref q5ne, .int si, .ref q5st, .int sn, .ref q5pd, .int re, .int ac, .int fa, .int fw, .ref q5cn, .ref q5ig, .ref q5ik])), (q5bk, .inl (cI, 15, .inl bk)), (q5nw, .inl (cI, 15, .inl nw)), (q5to, .inl (cI, 12, .inl to)), (q5ne, .inl (cI, 8, .inl ne)), (q5st, .inl (cI, 16, .inl st)), (q5pd, .inl (cI, 60, .inl pd)), (q5cn, .inl (cI, 3, .inl cn)), (q5ig, .inl (cI, 120, .inl ig)), (q5ik, .inl (cZ, 2, .inl ik))] sz)) (kQi (dC, dI) [(q5, .inr (5, [.ref q5bk, .ref q5nw, .ref q5to, .int th, .ref q5ne, .int si, .ref q5st, .int sn, .ref q5pd, .int re, .int ac, .int fa, .int fw, .ref q5cn, .ref q5ig, .ref q5ik])), (q5bk, .inl (cI, 15, .inl bk)), (q5nw, .inl (cI, 15, .inl nw)), (q5to, .inl (cI, 12, .inl to)), (q5ne, .inl (cI, 8, .inl ne)), (q5st, .inl (cI, 16, .inl st)), (q5pd, .inl (cI, 60, .inl pd)), (q5cn, .inl (cI, 3, .inl cn)), (q5ig, .inl (cI, 120, .inl ig)), (q5ik, .inl (cZ, 2, .inl ik))] [(q5, .inr (5, [.ref q5bk, .ref q5nw, .ref q5to, .int th, .ref q5ne, .int si, .ref q5st, .int sn, .ref q5pd, .int re, .int ac, .int fa, .int fw, .ref q5cn, .ref q5ig, .ref q5ik])), (q5bk, .inl (cI, 15, .inl bk)), (q5nw, .inl (cI, 15, .inl nw)), (q5to, .inl (cI, 12, .inl to)), (q5ne, .inl (cI, 8, .inl ne)), (q5st, .inl (cI, 16, .inl st)), (q5pd, .inl (cI, 60, .inl pd)), (q5cn, .inl (cI, 3, .inl cn)), (q5ig, .inl (cI, 120, .inl ig)), (q5ik, .inl (cZ, 2, .inl ik))] sz r0) 0 0 (va_A [(q5, .inr (5, [.ref q5bk, .ref q5nw, .ref q5to, .int th, .ref q5ne, .int si, .ref q5st, .int sn, .ref q5pd, .int re, .int ac, .int fa, .int fw, .ref q5cn, .ref q5ig, .ref q5ik])), (q5bk, .inl (cI, 15, .inl bk)), (q5nw, .inl (cI, 15, .inl nw)), (q5to, .inl (cI, 12, .inl to)), (q5ne, .inl (cI, 8, .inl ne)), (q5st, .inl (cI, 16, .inl st)), (q5pd, .inl (cI, 60, .inl pd)), (q5cn, .inl (cI, 3, .inl cn)), (q5ig, .inl (cI, 120, .inl ig)), (q5ik, .inl (cZ, 2, .inl ik))] sz) := by
  refine kMi (own := RX5) (ty := .int) rfl (by decide) rfl ?_ (Nat.le_of_ble_eq_true rfl)
  intro p e s m args below meth c Q A CF hK hN hA hP hD hret ls hl
  have hS : va_S A s.heap s.heap [] := va_S.rf
  obtain ⟨hx, hb, hml, hown, hts⟩ := id CF
  have hl : lv_has ls 8 [(0, .ref q5), (1, .int v1), (2, .int v2)] := hl
  unfold m_X5_weakest at hs
  refine lv_iload_n hx hb dX5_weakest_0 rfl (lv_at hl 1 rfl) ?_
  refine lv_iconst (v := 1) hx hb dX5_weakest_1 (by decide) ?_
  refine lv_bipush (v := 12) hx hb dX5_weakest_2 (by decide) ?_
  refine kpi (va_runS (As := [.int v1, .int (1 : Int32), .int (12 : Int32)]) (rest := []) ⟨hx, hb, hml, hown, hts⟩ (k_X5_in l v1 (1 : Int32) (12 : Int32) _ rfl) (va_cwS 3 hts (kGood (kgS mG_330 mG_331 mG_332 mG_326)) rfl rfl rfl hd_X5_in ⟨Nat.le_of_ble_eq_true rfl, Nat.le_of_ble_eq_true rfl⟩) preEq rfl rfl hl.1 rfl (lv_room (Nat.le_of_ble_eq_true rfl)) dX5_weakest_4 ⟨Nat.zero_le _, Nat.zero_le _⟩) ?_
  refine lv_if_eq (tgt := 19) hx hb dX5_weakest_7 (by decide) (fun c_1 => ?_) (fun c_1 => ?_)
  · replace hs := if_p c_1 hs
    refine lv_bipush (v := -2) hx hb dX5_weakest_19 (by decide) ?_
    cases hs
    exact hret _ _ _ _ hP hD hS (vp_nar_int _) dX5_weakest_21
  · replace hs := if_n c_1 hs
    refine lv_iload_n hx hb dX5_weakest_10 rfl (lv_at hl 2 rfl) ?_
    refine lv_iconst (v := 0) hx hb dX5_weakest_11 (by decide) ?_
    refine lv_iconst (v := 1) hx hb dX5_weakest_12 (by decide) ?_
    refine kpi (va_runS (As := [.int v2, .int (0 : Int32), .int (1 : Int32)]) (rest := []) ⟨hx, hb, hml, hown, hts⟩ (k_X5_in l v2 (0 : Int32) (1 : Int32) _ rfl) (va_cwS 3 hts (kGood (kgS mG_330 mG_331 mG_332 mG_326)) rfl rfl rfl hd_X5_in ⟨Nat.le_of_ble_eq_true rfl, Nat.le_of_ble_eq_true rfl⟩) preEq rfl rfl hl.1 rfl (lv_room (Nat.le_of_ble_eq_true rfl)) dX5_weakest_13 ⟨Nat.zero_le _, Nat.zero_le _⟩) ?_
    refine lv_if_ne (tgt := 22) hx hb dX5_weakest_16 (by decide) (fun c_2 => ?_) (fun c_2 => ?_)
    · replace hs := if_n c_2 hs
      refine lv_iconst (v := 0) hx hb dX5_weakest_22 (by decide) ?_
      refine lv_istore_n (lv' := [(3, .int (0 : Int32)), (0, .ref q5), (1, .int v1), (2, .int v2)]) hx hb dX5_weakest_23 rfl hl (by decide) rfl (fun ls hl => ?_)
      refine lv_ldc (v := 1000000) hx hb hown (hts _ (kg1 mG_411)) dX5_weakest_24 ?_
      refine lv_istore (lv' := [(4, .int (1000000 : Int32)), (3, .int (0 : Int32)), (0, .ref q5), (1, .int v1), (2, .int v2)]) hx hb dX5_weakest_26 hl (by decide) rfl (fun ls hl => ?_)
      refine lv_iconst (v := 0) hx hb dX5_weakest_28 (by decide) ?_
      refine lv_istore (lv' := [(5, .int (0 : Int32)), (4, .int (1000000 : Int32)), (3, .int (0 : Int32)), (0, .ref q5), (1, .int v1), (2, .int v2)]) hx hb dX5_weakest_29 hl (by decide) rfl (fun ls hl => ?_)
      have hL_31 : ∀ (n : Nat) (v3 : Int32) (v4 : Int32) (v5 : Int32) (H : Heap) (locs : List Loc) (ls : Array Slot), va_P (dC, dI) vwCl [(q5, .inr (5, [.ref q5bk, .ref q5nw, .ref q5to, .int th, .ref q5ne, .int si, .ref q5st, .int sn, .ref q5pd, .int re, .int ac, .int fa, .int fw, .ref q5cn, .ref q5ig, .ref q5ik])), (q5bk, .inl (cI, 15, .inl bk)), (q5nw, .inl (cI, 15, .inl nw)), (q5to, .inl (cI, 12, .inl to)), (q5ne, .inl (cI, 8, .inl ne)), (q5st, .inl (cI, 16, .inl st)), (q5pd, .inl (cI, 60, .inl pd)), (q5cn, .inl (cI, 3, .inl cn)), (q5ig, .inl (cI, 120, .inl ig)), (q5ik, .inl (cZ, 2, .inl ik))] H → va_D A [(q5, .inr (5, [.ref q5bk, .ref q5nw, .ref q5to, .int th, .ref q5ne, .int si, .ref q5st, .int sn, .ref q5pd, .int re, .int ac, .int fa, .int fw, .ref q5cn, .ref q5ig, .ref q5ik])), (q5bk, .inl (cI, 15, .inl bk)), (q5nw, .inl (cI, 15, .inl nw)), (q5to, .inl (cI, 12, .inl to)), (q5ne, .inl (cI, 8, .inl ne)), (q5st, .inl (cI, 16, .inl st)), (q5pd, .inl (cI, 60, .inl pd)), (q5cn, .inl (cI, 3, .inl cn)), (q5ig, .inl (cI, 120, .inl ig)), (q5ik, .inl (cZ, 2, .inl ik))] → va_S A s.heap H locs → lv_has ls 8 [(0, .ref q5), (1, .int v1), (2, .int v2), (3, .int v3), (4, .int v4), (5, .int v5)] → L_X5_weakest_31 v1 v2 bk n v3 v4 v5 = some r0 → W p l e rm_X5_weakest s m args below meth c H locs 0 0 Q (F0 m 31 ls []) := by
        intro n
        induction n with
        | zero =>
          intro v3 v4 v5 H locs ls hP hD hS hl hs
          replace hs : (none : Option (Int32)) = some r0 := hs
          cases hs
        | succ n_31 ih_31 =>
          intro v3 v4 v5 H locs ls hP hD hS hl hs
          replace hs : b_X5_weakest_31  (L_X5_weakest_31 v1 v2 bk n_31) v1 v2 bk v3 v4 v5 = some r0 := hs
          unfold b_X5_weakest_31 at hs
          refine lv_iload hx hb dX5_weakest_31 (lv_at hl 5 rfl) ?_
          refine lv_bipush (v := 12) hx hb dX5_weakest_33 (by decide) ?_
          refine lv_icmp_ge (tgt := 110) hx hb dX5_weakest_35 (by decide) (fun c_3 => ?_) (fun c_3 => ?_)
          · replace hs := if_p c_3 hs
            refine lv_iload_n hx hb dX5_weakest_110 rfl (lv_at hl 2 rfl) ?_
            refine lv_if_ne (tgt := 118) hx hb dX5_weakest_111 (by decide) (fun c_4 => ?_) (fun c_4 => ?_)
            · replace hs := if_n c_4 hs
              refine lv_iload hx hb dX5_weakest_118 (lv_at hl 4 rfl) ?_
              cases hs
              exact hret _ _ _ _ hP hD hS (vp_nar_int _) dX5_weakest_120
            · replace hs := if_p c_4 hs
              refine lv_iload_n hx hb dX5_weakest_114 rfl (lv_at hl 3 rfl) ?_
              refine lv_goto (tgt := 120) hx hb dX5_weakest_115 (by decide) ?_
              cases hs
              exact hret _ _ _ _ hP hD hS (vp_nar_int _) dX5_weakest_120
          · replace hs := if_n c_3 hs
            refine lv_iconst (v := 0) hx hb dX5_weakest_38 (by decide) ?_
            refine lv_istore (lv' := [(6, .int (0 : Int32)), (0, .ref q5), (1, .int v1), (2, .int v2), (3, .int v3), (4, .int v4), (5, .int v5)]) hx hb dX5_weakest_39 hl (by decide) rfl (fun ls hl => ?_)
            refine lv_iconst (v := 0) hx hb dX5_weakest_41 (by decide) ?_
            refine lv_istore (lv' := [(7, .int (0 : Int32)), (6, .int (0 : Int32)), (0, .ref q5), (1, .int v1), (2, .int v2), (3, .int v3), (4, .int v4), (5, .int v5)]) hx hb dX5_weakest_42 hl (by decide) rfl (fun ls hl => ?_)
            have hL_44 : ∀ (n : Nat) (v3 : Int32) (v4 : Int32) (v5 : Int32) (v6 : Int32) (v7 : Int32) (H : Heap) (locs : List Loc) (ls : Array Slot), va_P (dC, dI) vwCl [(q5, .inr (5, [.ref q5bk, .ref q5nw, .ref q5to, .int th, .ref q5ne, .int si, .ref q5st, .int sn, .ref q5pd, .int re, .int ac, .int fa, .int fw, .ref q5cn, .ref q5ig, .ref q5ik])), (q5bk, .inl (cI, 15, .inl bk)), (q5nw, .inl (cI, 15, .inl nw)), (q5to, .inl (cI, 12, .inl to)), (q5ne, .inl (cI, 8, .inl ne)), (q5st, .inl (cI, 16, .inl st)), (q5pd, .inl (cI, 60, .inl pd)), (q5cn, .inl (cI, 3, .inl cn)), (q5ig, .inl (cI, 120, .inl ig)), (q5ik, .inl (cZ, 2, .inl ik))] H → va_D A [(q5, .inr (5, [.ref q5bk, .ref q5nw, .ref q5to, .int th, .ref q5ne, .int si, .ref q5st, .int sn, .ref q5pd, .int re, .int ac, .int fa, .int fw, .ref q5cn, .ref q5ig, .ref q5ik])), (q5bk, .inl (cI, 15, .inl bk)), (q5nw, .inl (cI, 15, .inl nw)), (q5to, .inl (cI, 12, .inl to)), (q5ne, .inl (cI, 8, .inl ne)), (q5st, .inl (cI, 16, .inl st)), (q5pd, .inl (cI, 60, .inl pd)), (q5cn, .inl (cI, 3, .inl cn)), (q5ig, .inl (cI, 120, .inl ig)), (q5ik, .inl (cZ, 2, .inl ik))] → va_S A s.heap H locs → lv_has ls 8 [(0, .ref q5), (1, .int v1), (2, .int v2), (3, .int v3), (4, .int v4), (5, .int v5), (6, .int v6), (7, .int v7)] → L_X5_weakest_44 (L_X5_weakest_31 v1 v2 bk n_31) v1 v3 v4 v5 bk n v6 v7 = some r0 → W p l e rm_X5_weakest s m args below meth c H locs 0 0 Q (F0 m 44 ls []) := by
              intro n
              induction n with
              | zero =>
                intro v3 v4 v5 v6 v7 H locs ls hP hD hS hl hs
                replace hs : (none : Option (Int32)) = some r0 := hs
                cases hs
              | succ n_44 ih_44 =>
                intro v3 v4 v5 v6 v7 H locs ls hP hD hS hl hs
                replace hs : b_X5_weakest_44 (L_X5_weakest_31 v1 v2 bk n_31) (L_X5_weakest_44 (L_X5_weakest_31 v1 v2 bk n_31) v1 v3 v4 v5 bk n_44) v1 v3 v4 v5 bk v6 v7 = some r0 := hs
                unfold b_X5_weakest_44 at hs
                refine lv_iload hx hb dX5_weakest_44 (lv_at hl 7 rfl) ?_
                refine lv_iload_n hx hb dX5_weakest_46 rfl (lv_at hl 1 rfl) ?_
                refine lv_icmp_ge (tgt := 74) hx hb dX5_weakest_47 (by decide) (fun c_5 => ?_) (fun c_5 => ?_)
                · replace hs := if_p c_5 hs
                  refine lv_iload hx hb dX5_weakest_74 (lv_at hl 6 rfl) ?_
                  refine lv_iload hx hb dX5_weakest_76 (lv_at hl 4 rfl) ?_
                  have hJ_87 : ∀ (v4 : Int32) (v5 : Int32) (v6 : Int32) (s87_0 : Int32) (H : Heap) (locs : List Loc) (ls : Array Slot), va_P (dC, dI) vwCl [(q5, .inr (5, [.ref q5bk, .ref q5nw, .ref q5to, .int th, .ref q5ne, .int si, .ref q5st, .int sn, .ref q5pd, .int re, .int ac, .int fa, .int fw, .ref q5cn, .ref q5ig, .ref q5ik])), (q5bk, .inl (cI, 15, .inl bk)), (q5nw, .inl (cI, 15, .inl nw)), (q5to, .inl (cI, 12, .inl to)), (q5ne, .inl (cI, 8, .inl ne)), (q5st, .inl (cI, 16, .inl st)), (q5pd, .inl (cI, 60, .inl pd)), (q5cn, .inl (cI, 3, .inl cn)), (q5ig, .inl (cI, 120, .inl ig)), (q5ik, .inl (cZ, 2, .inl ik))] H → va_D A [(q5, .inr (5, [.ref q5bk, .ref q5nw, .ref q5to, .int th, .ref q5ne, .int si, .ref q5st, .int sn, .ref q5pd, .int re, .int ac, .int fa, .int fw, .ref q5cn, .ref q5ig, .ref q5ik])), (q5bk, .inl (cI, 15, .inl bk)), (q5nw, .inl (cI, 15, .inl nw)), (q5to, .inl (cI, 12, .inl to)), (q5ne, .inl (cI, 8, .inl ne)), (q5st, .inl (cI, 16, .inl st)), (q5pd, .inl (cI, 60, .inl pd)), (q5cn, .inl (cI, 3, .inl cn)), (q5ig, .inl (cI, 120, .inl ig)), (q5ik, .inl (cZ, 2, .inl ik))] → va_S A s.heap H locs → lv_has ls 8 [(0, .ref q5), (1, .int v1), (2, .int v2), (4, .int v4), (5, .int v5), (6, .int v6)] → j_X5_weakest_87 (L_X5_weakest_31 v1 v2 bk n_31) v4 v5 v6 s87_0 = some r0 → W p l e rm_X5_weakest s m args below meth c H locs 0 0 Q (F0 m 87 ls [.int s87_0]) := by
                    intro v4 v5 v6 s87_0 H locs ls hP hD hS hl hs
                    unfold j_X5_weakest_87 at hs
                    refine lv_istore_n (lv' := [(3, .int s87_0), (0, .ref q5), (1, .int v1), (2, .int v2), (4, .int v4), (5, .int v5), (6, .int v6)]) hx hb dX5_weakest_87 rfl hl (by decide) rfl (fun ls hl => ?_)
                    refine lv_iload hx hb dX5_weakest_88 (lv_at hl 6 rfl) ?_
                    refine lv_iload hx hb dX5_weakest_90 (lv_at hl 4 rfl) ?_
                    refine lv_icmp_ge (tgt := 100) hx hb dX5_weakest_92 (by decide) (fun c_8 => ?_) (fun c_8 => ?_)
                    · replace hs := if_p c_8 hs
                      refine lv_iload hx hb dX5_weakest_100 (lv_at hl 4 rfl) ?_
                      refine lv_istore (lv' := [(4, .int v4), (3, .int s87_0), (0, .ref q5), (1, .int v1), (2, .int v2), (5, .int v5), (6, .int v6)]) hx hb dX5_weakest_102 hl (by decide) rfl (fun ls hl => ?_)
                      refine lv_iinc (v := (v5 + 1)) (lv' := [(5, .int (v5 + 1)), (4, .int v4), (3, .int s87_0), (0, .ref q5), (1, .int v1), (2, .int v2), (6, .int v6)]) hx hb dX5_weakest_104 hl (k := 5) rfl rfl (by decide) rfl (fun ls hl => ?_)
                      refine lv_goto (tgt := 31) hx hb dX5_weakest_107 (by decide) ?_
                      exact ih_31 s87_0 v4 (v5 + 1) _ _ _ hP hD hS (lv_sub hl [3, 4, 5, 2, 1, 0] rfl) hs
                    · replace hs := if_n c_8 hs
                      refine lv_iload hx hb dX5_weakest_95 (lv_at hl 6 rfl) ?_
                      refine lv_goto (tgt := 102) hx hb dX5_weakest_97 (by decide) ?_
                      refine lv_istore (lv' := [(4, .int v6), (3, .int s87_0), (0, .ref q5), (1, .int v1), (2, .int v2), (5, .int v5), (6, .int v6)]) hx hb dX5_weakest_102 hl (by decide) rfl (fun ls hl => ?_)
                      refine lv_iinc (v := (v5 + 1)) (lv' := [(5, .int (v5 + 1)), (4, .int v6), (3, .int s87_0), (0, .ref q5), (1, .int v1), (2, .int v2), (6, .int v6)]) hx hb dX5_weakest_104 hl (k := 5) rfl rfl (by decide) rfl (fun ls hl => ?_)
                      refine lv_goto (tgt := 31) hx hb dX5_weakest_107 (by decide) ?_
                      exact ih_31 s87_0 v6 (v5 + 1) _ _ _ hP hD hS (lv_sub hl [3, 4, 5, 2, 1, 0] rfl) hs
                  refine lv_icmp_ge (tgt := 86) hx hb dX5_weakest_78 (by decide) (fun c_6 => ?_) (fun c_6 => ?_)
                  · replace hs := if_p c_6 hs
                    refine lv_iload_n hx hb dX5_weakest_86 rfl (lv_at hl 3 rfl) ?_
                    exact hJ_87 v4 v5 v6 v3 _ _ _ hP hD hS (lv_sub hl [0, 1, 2, 4, 5, 6] rfl) hs
                  · replace hs := if_n c_6 hs
                    refine lv_iload hx hb dX5_weakest_81 (lv_at hl 5 rfl) ?_
                    refine lv_goto (tgt := 87) hx hb dX5_weakest_83 (by decide) ?_
                    exact hJ_87 v4 v5 v6 v5 _ _ _ hP hD hS (lv_sub hl [0, 1, 2, 4, 5, 6] rfl) hs
                · replace hs := if_n c_5 hs
                  refine lv_iload hx hb dX5_weakest_50 (lv_at hl 6 rfl) ?_
                  refine lv_aload_n hx hb dX5_weakest_52 rfl (lv_at hl 0 rfl) ?_
                  refine va_get (D := (dC, dI)) (ci := 5) (v := .ref q5bk) (C := RX5) (T := TX5) (N := 16) hx hb hts (fun w h => kg1 (iG_5 w h)) hown hK hP 0 rfl rfl 0 (by decide) (hts _ (kg1 mG_316)) (fun _ h9 => h9) rfl dX5_weakest_53 ?_
                  refine lv_iload hx hb dX5_weakest_56 (lv_at hl 5 rfl) ?_
                  refine lv_iload hx hb dX5_weakest_58 (lv_at hl 7 rfl) ?_
                  refine lv_iadd hx hb dX5_weakest_60 ?_
                  refine lv_bipush (v := 12) hx hb dX5_weakest_61 (by decide) ?_
                  refine lv_irem hx hb dX5_weakest_63 (by decide) ?_
                  obtain ⟨hg_7, hs⟩ := gd_e hs
                  refine kald hx hb hK hP 1 0 rfl rfl (j := (Int32.toNatClampNeg (irem (v5 + v7) (12 : Int32)))) rfl (inb_e hg_7) dX5_weakest_64 ?_
                  refine lv_iadd hx hb dX5_weakest_65 ?_
                  refine lv_istore (lv' := [(6, .int (v6 + (bk (Int32.toNatClampNeg (irem (v5 + v7) (12 : Int32)))))), (0, .ref q5), (1, .int v1), (2, .int v2), (3, .int v3), (4, .int v4), (5, .int v5), (7, .int v7)]) hx hb dX5_weakest_66 hl (by decide) rfl (fun ls hl => ?_)
                  refine lv_iinc (v := (v7 + 1)) (lv' := [(7, .int (v7 + 1)), (6, .int (v6 + (bk (Int32.toNatClampNeg (irem (v5 + v7) (12 : Int32)))))), (0, .ref q5), (1, .int v1), (2, .int v2), (3, .int v3), (4, .int v4), (5, .int v5)]) hx hb dX5_weakest_68 hl (k := 7) rfl rfl (by decide) rfl (fun ls hl => ?_)
                  refine lv_goto (tgt := 44) hx hb dX5_weakest_71 (by decide) ?_
                  exact ih_44 v3 v4 v5 (v6 + (bk (Int32.toNatClampNeg (irem (v5 + v7) (12 : Int32))))) (v7 + 1) _ _ _ hP hD hS (lv_sub hl [2, 3, 4, 5, 6, 7, 1, 0] rfl) hs
            exact hL_44 fu v3 v4 v5 (0 : Int32) (0 : Int32) _ _ _ hP hD hS (lv_sub hl [2, 3, 4, 5, 6, 7, 1, 0] rfl) hs
      exact hL_31 fu (0 : Int32) (1000000 : Int32) (0 : Int32) _ _ _ hP hD hS (lv_sub hl [3, 4, 5, 2, 1, 0] rfl) hs
    · replace hs := if_p c_2 hs
      refine lv_bipush (v := -2) hx hb dX5_weakest_19 (by decide) ?_
      cases hs
      exact hret _ _ _ _ hP hD hS (vp_nar_int _) dX5_weakest_21
abbrev rm_X5_watch : Room := { frames := 1, cells := 0, slots := 0, locals := 23 }
theorem hd_X5_watch : yX5_watch.cls ≠ "java/lang/invoke/MethodHandle" ∧ yX5_watch.cls ≠ "java/lang/invoke/VarHandle" ∧ (parseMethodDescriptor yX5_watch.desc).map (fun d => d.parameters.length) = some 3 := by decide +kernel
set_option maxHeartbeats 4000000 in
set_option maxRecDepth 100000 in
theorem k_X5_watch (l : Launch) (dC : Nat → ClassId) (dI : Nat → Nat → Nat) (cI cZ cS : ClassId) (q5 q5bk q5nw q5to q5ne q5st q5pd q5cn q5ig q5ik : Nat) (sz : Nat) (th : Int32) (si : Int32) (sn : Int32) (re : Int32) (ac : Int32) (fa : Int32) (fw : Int32) (bk : Ar) (nw : Ar) (to : Ar) (ne : Ar) (st : Ar) (pd : Ar) (cn : Ar) (ig : Ar) (ik : Ar) (v1 : Int32) (v2 : Int32) (v3 : Int32) (r0 : Int32) (hs : m_X5_watch v1 v2 v3 = some r0) : Met l yX5_watch (.code yX5_watch cX5_watch 8 (some .int) :: kG) rm_X5_watch (va_Pc [.ref q5, .int v1, .int v2, .int v3] (kW (dC, dI) cI cZ cS [(q5, .inr (5, [.ref q5bk, .ref q5nw, .ref q5to, .int th, .ref q5ne, .int si, .ref q5st, .int sn, .ref q5pd, .int re, .int ac, .int fa, .int fw, .ref q5cn, .ref q5ig, .ref q5ik])), (q5bk, .inl (cI, 15, .inl bk)), (q5nw, .inl (cI, 15, .inl nw)), (q5to, .inl (cI, 12, .inl to)), (q5ne, .inl (cI, 8, .inl ne)), (q5st, .inl (cI, 16, .inl st)), (q5pd, .inl (cI, 60, .inl pd)), (q5cn, .inl (cI, 3, .inl cn)), (q5ig, .inl (cI, 120, .inl ig)), (q5ik, .inl (cZ, 2, .inl ik))] sz)) (kQi (dC, dI) [(q5, .inr (5, [.ref q5bk, .ref q5nw, .ref q5to, .int th, .ref q5ne, .int si, .ref q5st, .int sn, .ref q5pd, .int re, .int ac, .int fa, .int fw, .ref q5cn, .ref q5ig, .ref q5ik])), (q5bk, .inl (cI, 15, .inl bk)), (q5nw, .inl (cI, 15, .inl nw)), (q5to, .inl (cI, 12, .inl to)), (q5ne, .inl (cI, 8, .inl ne)), (q5st, .inl (cI, 16, .inl st)), (q5pd, .inl (cI, 60, .inl pd)), (q5cn, .inl (cI, 3, .inl cn)), (q5ig, .inl (cI, 120, .inl ig)), (q5ik, .inl (cZ, 2, .inl ik))] [(q5, .inr (5, [.ref q5bk, .ref q5nw, .ref q5to, .int th, .ref q5ne, .int si, .ref q5st, .int sn, .ref q5pd, .int re, .int ac, .int fa, .int fw, .ref q5cn, .ref q5ig, .ref q5ik])), (q5bk, .inl (cI, 15, .inl bk)), (q5nw, .inl (cI, 15, .inl nw)), (q5to, .inl (cI, 12, .inl to)), (q5ne, .inl (cI, 8, .inl ne)), (q5st, .inl (cI, 16, .inl st)), (q5pd, .inl (cI, 60, .inl pd)), (q5cn, .inl (cI, 3, .inl cn)), (q5ig, .inl (cI, 120, .inl ig)), (q5ik, .inl (cZ, 2, .inl ik))] sz r0) 0 0 (va_A [(q5, .inr (5, [.ref q5bk, .ref q5nw, .ref q5to, .int th, .ref q5ne, .int si, .ref q5st, .int sn, .ref q5pd, .int re, .int ac, .int fa, .int fw, .ref q5cn, .ref q5ig, .ref q5ik])), (q5bk, .inl (cI, 15, .inl bk)), (q5nw, .inl (cI, 15, .inl nw)), (q5to, .inl (cI, 12, .inl to)), (q5ne, .inl (cI, 8, .inl ne)), (q5st, .inl (cI, 16, .inl st)), (q5pd, .inl (cI, 60, .inl pd)), (q5cn, .inl (cI, 3, .inl cn)), (q5ig, .inl (cI, 120, .inl ig)), (q5ik, .inl (cZ, 2, .inl ik))] sz) := by
  refine kMi (own := RX5) (ty := .int) rfl (by decide) rfl ?_ (Nat.le_of_ble_eq_true rfl)
  intro p e s m args below meth c Q A CF hK hN hA hP hD hret ls hl
  have hS : va_S A s.heap s.heap [] := va_S.rf
  obtain ⟨hx, hb, hml, hown, hts⟩ := id CF
  have hl : lv_has ls 8 [(0, .ref q5), (1, .int v1), (2, .int v2), (3, .int v3)] := hl
  unfold m_X5_watch at hs
  refine lv_iload_n hx hb dX5_watch_0 rfl (lv_at hl 1 rfl) ?_
  refine lv_iconst (v := 0) hx hb dX5_watch_1 (by decide) ?_
  refine lv_sipush (v := 4095) hx hb dX5_watch_2 (by decide) ?_
  refine kpi (va_runS (As := [.int v1, .int (0 : Int32), .int (4095 : Int32)]) (rest := []) ⟨hx, hb, hml, hown, hts⟩ (k_X5_in l v1 (0 : Int32) (4095 : Int32) _ rfl) (va_cwS 3 hts (kGood (kgS mG_330 mG_331 mG_332 mG_326)) rfl rfl rfl hd_X5_in ⟨Nat.le_of_ble_eq_true rfl, Nat.le_of_ble_eq_true rfl⟩) preEq rfl rfl hl.1 rfl (lv_room (Nat.le_of_ble_eq_true rfl)) dX5_watch_5 ⟨Nat.zero_le _, Nat.zero_le _⟩) ?_
  refine lv_if_eq (tgt := 29) hx hb dX5_watch_8 (by decide) (fun c_1 => ?_) (fun c_1 => ?_)
  · replace hs := if_p c_1 hs
    refine lv_bipush (v := -2) hx hb dX5_watch_29 (by decide) ?_
    cases hs
    exact hret _ _ _ _ hP hD hS (vp_nar_int _) dX5_watch_31
  · replace hs := if_n c_1 hs
    refine lv_iload_n hx hb dX5_watch_11 rfl (lv_at hl 2 rfl) ?_
    refine lv_iconst (v := 0) hx hb dX5_watch_12 (by decide) ?_
    refine lv_iconst (v := 3) hx hb dX5_watch_13 (by decide) ?_
    refine kpi (va_runS (As := [.int v2, .int (0 : Int32), .int (3 : Int32)]) (rest := []) ⟨hx, hb, hml, hown, hts⟩ (k_X5_in l v2 (0 : Int32) (3 : Int32) _ rfl) (va_cwS 3 hts (kGood (kgS mG_330 mG_331 mG_332 mG_326)) rfl rfl rfl hd_X5_in ⟨Nat.le_of_ble_eq_true rfl, Nat.le_of_ble_eq_true rfl⟩) preEq rfl rfl hl.1 rfl (lv_room (Nat.le_of_ble_eq_true rfl)) dX5_watch_14 ⟨Nat.zero_le _, Nat.zero_le _⟩) ?_
    refine lv_if_eq (tgt := 29) hx hb dX5_watch_17 (by decide) (fun c_2 => ?_) (fun c_2 => ?_)
    · replace hs := if_p c_2 hs
      refine lv_bipush (v := -2) hx hb dX5_watch_29 (by decide) ?_
      cases hs
      exact hret _ _ _ _ hP hD hS (vp_nar_int _) dX5_watch_31
    · replace hs := if_n c_2 hs
      refine lv_iload_n hx hb dX5_watch_20 rfl (lv_at hl 3 rfl) ?_
      refine lv_iconst (v := 0) hx hb dX5_watch_21 (by decide) ?_
      refine lv_iconst (v := 1) hx hb dX5_watch_22 (by decide) ?_
      refine kpi (va_runS (As := [.int v3, .int (0 : Int32), .int (1 : Int32)]) (rest := []) ⟨hx, hb, hml, hown, hts⟩ (k_X5_in l v3 (0 : Int32) (1 : Int32) _ rfl) (va_cwS 3 hts (kGood (kgS mG_330 mG_331 mG_332 mG_326)) rfl rfl rfl hd_X5_in ⟨Nat.le_of_ble_eq_true rfl, Nat.le_of_ble_eq_true rfl⟩) preEq rfl rfl hl.1 rfl (lv_room (Nat.le_of_ble_eq_true rfl)) dX5_watch_23 ⟨Nat.zero_le _, Nat.zero_le _⟩) ?_
      refine lv_if_ne (tgt := 32) hx hb dX5_watch_26 (by decide) (fun c_3 => ?_) (fun c_3 => ?_)
      · replace hs := if_n c_3 hs
        refine lv_bipush (v := -6) hx hb dX5_watch_32 (by decide) ?_
        refine lv_istore (lv' := [(4, .int (-6 : Int32)), (0, .ref q5), (1, .int v1), (2, .int v2), (3, .int v3)]) hx hb dX5_watch_34 hl (by decide) rfl (fun ls hl => ?_)
        refine lv_iconst (v := 0) hx hb dX5_watch_36 (by decide) ?_
        refine lv_istore (lv' := [(5, .int (0 : Int32)), (4, .int (-6 : Int32)), (0, .ref q5), (1, .int v1), (2, .int v2), (3, .int v3)]) hx hb dX5_watch_37 hl (by decide) rfl (fun ls hl => ?_)
        have hL_39 : ∀ (n : Nat) (v4 : Int32) (v5 : Int32) (H : Heap) (locs : List Loc) (ls : Array Slot), va_P (dC, dI) vwCl [(q5, .inr (5, [.ref q5bk, .ref q5nw, .ref q5to, .int th, .ref q5ne, .int si, .ref q5st, .int sn, .ref q5pd, .int re, .int ac, .int fa, .int fw, .ref q5cn, .ref q5ig, .ref q5ik])), (q5bk, .inl (cI, 15, .inl bk)), (q5nw, .inl (cI, 15, .inl nw)), (q5to, .inl (cI, 12, .inl to)), (q5ne, .inl (cI, 8, .inl ne)), (q5st, .inl (cI, 16, .inl st)), (q5pd, .inl (cI, 60, .inl pd)), (q5cn, .inl (cI, 3, .inl cn)), (q5ig, .inl (cI, 120, .inl ig)), (q5ik, .inl (cZ, 2, .inl ik))] H → va_D A [(q5, .inr (5, [.ref q5bk, .ref q5nw, .ref q5to, .int th, .ref q5ne, .int si, .ref q5st, .int sn, .ref q5pd, .int re, .int ac, .int fa, .int fw, .ref q5cn, .ref q5ig, .ref q5ik])), (q5bk, .inl (cI, 15, .inl bk)), (q5nw, .inl (cI, 15, .inl nw)), (q5to, .inl (cI, 12, .inl to)), (q5ne, .inl (cI, 8, .inl ne)), (q5st, .inl (cI, 16, .inl st)), (q5pd, .inl (cI, 60, .inl pd)), (q5cn, .inl (cI, 3, .inl cn)), (q5ig, .inl (cI, 120, .inl ig)), (q5ik, .inl (cZ, 2, .inl ik))] → va_S A s.heap H locs → lv_has ls 8 [(0, .ref q5), (1, .int v1), (2, .int v2), (3, .int v3), (4, .int v4), (5, .int v5)] → L_X5_watch_39 v1 v2 v3 n v4 v5 = some r0 → W p l e rm_X5_watch s m args below meth c H locs 0 0 Q (F0 m 39 ls []) := by
          intro n
          induction n with
          | zero =>
            intro v4 v5 H locs ls hP hD hS hl hs
            replace hs : (none : Option (Int32)) = some r0 := hs
            cases hs
          | succ n_39 ih_39 =>
            intro v4 v5 H locs ls hP hD hS hl hs
            replace hs : b_X5_watch_39  (L_X5_watch_39 v1 v2 v3 n_39) v1 v2 v3 v4 v5 = some r0 := hs
            unfold b_X5_watch_39 at hs
            refine lv_iload hx hb dX5_watch_39 (lv_at hl 5 rfl) ?_
            refine lv_sipush (v := 4096) hx hb dX5_watch_41 (by decide) ?_
            refine lv_icmp_ge (tgt := 142) hx hb dX5_watch_44 (by decide) (fun c_4 => ?_) (fun c_4 => ?_)
            · replace hs := if_p c_4 hs
              refine lv_iload_n hx hb dX5_watch_142 rfl (lv_at hl 3 rfl) ?_
              refine lv_iconst (v := 1) hx hb dX5_watch_143 (by decide) ?_
              refine lv_icmp_ne (tgt := 152) hx hb dX5_watch_144 (by decide) (fun c_5 => ?_) (fun c_5 => ?_)
              · replace hs := if_n c_5 hs
                refine lv_iload hx hb dX5_watch_152 (lv_at hl 4 rfl) ?_
                obtain ⟨r_6, hc_7, hs⟩ := ob1_e hs
                refine kpi (va_runS (As := [.int v4]) (rest := []) ⟨hx, hb, hml, hown, hts⟩ (k_X5_bits l v4 r_6 hc_7) (va_cwS 1 hts (kGood (kgS mG_338 mG_339 mG_332 mG_328)) rfl rfl rfl hd_X5_bits ⟨Nat.le_of_ble_eq_true rfl, Nat.le_of_ble_eq_true rfl⟩) preEq rfl rfl hl.1 rfl (lv_room (Nat.le_of_ble_eq_true rfl)) dX5_watch_154 ⟨Nat.zero_le _, Nat.zero_le _⟩) ?_
                cases hs
                exact hret _ _ _ _ hP hD hS (vp_nar_int _) dX5_watch_157
              · replace hs := if_p c_5 hs
                refine lv_iload hx hb dX5_watch_147 (lv_at hl 4 rfl) ?_
                refine lv_goto (tgt := 157) hx hb dX5_watch_149 (by decide) ?_
                cases hs
                exact hret _ _ _ _ hP hD hS (vp_nar_int _) dX5_watch_157
            · replace hs := if_n c_4 hs
              refine lv_iload hx hb dX5_watch_47 (lv_at hl 4 rfl) ?_
              refine lv_if_lt (tgt := 65) hx hb dX5_watch_49 (by decide) (fun c_8 => ?_) (fun c_8 => ?_)
              · replace hs := if_p c_8 hs
                refine lv_iconst (v := 0) hx hb dX5_watch_65 (by decide) ?_
                refine lv_istore (lv' := [(6, .int (0 : Int32)), (0, .ref q5), (1, .int v1), (2, .int v2), (3, .int v3), (4, .int v4), (5, .int v5)]) hx hb dX5_watch_66 hl (by decide) rfl (fun ls hl => ?_)
                refine lv_iconst (v := 0) hx hb dX5_watch_68 (by decide) ?_
                refine lv_istore (lv' := [(7, .int (0 : Int32)), (6, .int (0 : Int32)), (0, .ref q5), (1, .int v1), (2, .int v2), (3, .int v3), (4, .int v4), (5, .int v5)]) hx hb dX5_watch_69 hl (by decide) rfl (fun ls hl => ?_)
                have hL_71 : ∀ (n : Nat) (v4 : Int32) (v5 : Int32) (v6 : Int32) (v7 : Int32) (H : Heap) (locs : List Loc) (ls : Array Slot), va_P (dC, dI) vwCl [(q5, .inr (5, [.ref q5bk, .ref q5nw, .ref q5to, .int th, .ref q5ne, .int si, .ref q5st, .int sn, .ref q5pd, .int re, .int ac, .int fa, .int fw, .ref q5cn, .ref q5ig, .ref q5ik])), (q5bk, .inl (cI, 15, .inl bk)), (q5nw, .inl (cI, 15, .inl nw)), (q5to, .inl (cI, 12, .inl to)), (q5ne, .inl (cI, 8, .inl ne)), (q5st, .inl (cI, 16, .inl st)), (q5pd, .inl (cI, 60, .inl pd)), (q5cn, .inl (cI, 3, .inl cn)), (q5ig, .inl (cI, 120, .inl ig)), (q5ik, .inl (cZ, 2, .inl ik))] H → va_D A [(q5, .inr (5, [.ref q5bk, .ref q5nw, .ref q5to, .int th, .ref q5ne, .int si, .ref q5st, .int sn, .ref q5pd, .int re, .int ac, .int fa, .int fw, .ref q5cn, .ref q5ig, .ref q5ik])), (q5bk, .inl (cI, 15, .inl bk)), (q5nw, .inl (cI, 15, .inl nw)), (q5to, .inl (cI, 12, .inl to)), (q5ne, .inl (cI, 8, .inl ne)), (q5st, .inl (cI, 16, .inl st)), (q5pd, .inl (cI, 60, .inl pd)), (q5cn, .inl (cI, 3, .inl cn)), (q5ig, .inl (cI, 120, .inl ig)), (q5ik, .inl (cZ, 2, .inl ik))] → va_S A s.heap H locs → lv_has ls 8 [(0, .ref q5), (1, .int v1), (2, .int v2), (3, .int v3), (4, .int v4), (5, .int v5), (6, .int v6), (7, .int v7)] → L_X5_watch_71 (L_X5_watch_39 v1 v2 v3 n_39) v1 v2 v4 v5 n v6 v7 = some r0 → W p l e rm_X5_watch s m args below meth c H locs 0 0 Q (F0 m 71 ls []) := by
                  intro n
                  induction n with
                  | zero =>
                    intro v4 v5 v6 v7 H locs ls hP hD hS hl hs
                    replace hs : (none : Option (Int32)) = some r0 := hs
                    cases hs
                  | succ n_71 ih_71 =>
                    intro v4 v5 v6 v7 H locs ls hP hD hS hl hs
                    replace hs : b_X5_watch_71 (L_X5_watch_39 v1 v2 v3 n_39) (L_X5_watch_71 (L_X5_watch_39 v1 v2 v3 n_39) v1 v2 v4 v5 n_71) v1 v2 v4 v5 v6 v7 = some r0 := hs
                    unfold b_X5_watch_71 at hs
                    refine lv_iload hx hb dX5_watch_71 (lv_at hl 7 rfl) ?_
                    refine lv_bipush (v := 12) hx hb dX5_watch_73 (by decide) ?_
                    refine lv_icmp_ge (tgt := 118) hx hb dX5_watch_75 (by decide) (fun c_14 => ?_) (fun c_14 => ?_)
                    · replace hs := if_p c_14 hs
                      refine lv_iload_n hx hb dX5_watch_118 rfl (lv_at hl 1 rfl) ?_
                      refine lv_iload hx hb dX5_watch_119 (lv_at hl 6 rfl) ?_
                      refine lv_iconst (v := -1) hx hb dX5_watch_121 (by decide) ?_
                      refine lv_ixor hx hb dX5_watch_122 ?_
                      refine lv_iand hx hb dX5_watch_123 ?_
                      refine lv_if_ne (tgt := 132) hx hb dX5_watch_124 (by decide) (fun c_15 => ?_) (fun c_15 => ?_)
                      · replace hs := if_n c_15 hs
                        refine lv_iload hx hb dX5_watch_132 (lv_at hl 4 rfl) ?_
                        refine lv_istore (lv' := [(4, .int v4), (0, .ref q5), (1, .int v1), (2, .int v2), (3, .int v3), (5, .int v5), (6, .int v6), (7, .int v7)]) hx hb dX5_watch_134 hl (by decide) rfl (fun ls hl => ?_)
                        refine lv_iinc (v := (v5 + 1)) (lv' := [(5, .int (v5 + 1)), (4, .int v4), (0, .ref q5), (1, .int v1), (2, .int v2), (3, .int v3), (6, .int v6), (7, .int v7)]) hx hb dX5_watch_136 hl (k := 5) rfl rfl (by decide) rfl (fun ls hl => ?_)
                        refine lv_goto (tgt := 39) hx hb dX5_watch_139 (by decide) ?_
                        exact ih_39 v4 (v5 + 1) _ _ _ hP hD hS (lv_sub hl [2, 3, 4, 5, 1, 0] rfl) hs
                      · replace hs := if_p c_15 hs
                        refine lv_iload hx hb dX5_watch_127 (lv_at hl 5 rfl) ?_
                        refine lv_goto (tgt := 134) hx hb dX5_watch_129 (by decide) ?_
                        refine lv_istore (lv' := [(4, .int v5), (0, .ref q5), (1, .int v1), (2, .int v2), (3, .int v3), (5, .int v5), (6, .int v6), (7, .int v7)]) hx hb dX5_watch_134 hl (by decide) rfl (fun ls hl => ?_)
                        refine lv_iinc (v := (v5 + 1)) (lv' := [(5, .int (v5 + 1)), (4, .int v5), (0, .ref q5), (1, .int v1), (2, .int v2), (3, .int v3), (6, .int v6), (7, .int v7)]) hx hb dX5_watch_136 hl (k := 5) rfl rfl (by decide) rfl (fun ls hl => ?_)
                        refine lv_goto (tgt := 39) hx hb dX5_watch_139 (by decide) ?_
                        exact ih_39 v5 (v5 + 1) _ _ _ hP hD hS (lv_sub hl [2, 3, 4, 5, 1, 0] rfl) hs
                    · replace hs := if_n c_14 hs
                      refine lv_iload hx hb dX5_watch_78 (lv_at hl 6 rfl) ?_
                      refine lv_iload hx hb dX5_watch_80 (lv_at hl 5 rfl) ?_
                      refine lv_iload hx hb dX5_watch_82 (lv_at hl 7 rfl) ?_
                      refine kpi (va_runS (As := [.int v5, .int v7]) (rest := [.int v6]) ⟨hx, hb, hml, hown, hts⟩ (k_X5_has l v5 v7 _ rfl) (va_cwS 2 hts (kGood (kgS mG_352 mG_353 mG_332 mG_327)) rfl rfl rfl hd_X5_has ⟨Nat.le_of_ble_eq_true rfl, Nat.le_of_ble_eq_true rfl⟩) preEq rfl rfl hl.1 rfl (lv_room (Nat.le_of_ble_eq_true rfl)) dX5_watch_84 ⟨Nat.zero_le _, Nat.zero_le _⟩) ?_
                      refine lv_if_eq (tgt := 108) hx hb dX5_watch_87 (by decide) (fun c_16 => ?_) (fun c_16 => ?_)
                      · replace hs := if_p c_16 hs
                        refine lv_iconst (v := 0) hx hb dX5_watch_108 (by decide) ?_
                        refine lv_ior hx hb dX5_watch_109 ?_
                        refine lv_istore (lv' := [(6, .int (v6 ||| (0 : Int32))), (0, .ref q5), (1, .int v1), (2, .int v2), (3, .int v3), (4, .int v4), (5, .int v5), (7, .int v7)]) hx hb dX5_watch_110 hl (by decide) rfl (fun ls hl => ?_)
                        refine lv_iinc (v := (v7 + 1)) (lv' := [(7, .int (v7 + 1)), (6, .int (v6 ||| (0 : Int32))), (0, .ref q5), (1, .int v1), (2, .int v2), (3, .int v3), (4, .int v4), (5, .int v5)]) hx hb dX5_watch_112 hl (k := 7) rfl rfl (by decide) rfl (fun ls hl => ?_)
                        refine lv_goto (tgt := 71) hx hb dX5_watch_115 (by decide) ?_
                        exact ih_71 v4 v5 (v6 ||| (0 : Int32)) (v7 + 1) _ _ _ hP hD hS (lv_sub hl [2, 3, 4, 5, 6, 7, 1, 0] rfl) hs
                      · replace hs := if_n c_16 hs
                        refine lv_iload hx hb dX5_watch_90 (lv_at hl 7 rfl) ?_
                        refine lv_bipush (v := 12) hx hb dX5_watch_92 (by decide) ?_
                        refine lv_iadd hx hb dX5_watch_94 ?_
                        refine lv_iload_n hx hb dX5_watch_95 rfl (lv_at hl 2 rfl) ?_
                        refine lv_isub hx hb dX5_watch_96 ?_
                        refine lv_iconst (v := 2) hx hb dX5_watch_97 (by decide) ?_
                        refine lv_iload_n hx hb dX5_watch_98 rfl (lv_at hl 2 rfl) ?_
                        refine lv_imul hx hb dX5_watch_99 ?_
                        refine lv_iconst (v := 1) hx hb dX5_watch_100 (by decide) ?_
                        refine lv_iadd hx hb dX5_watch_101 ?_
                        obtain ⟨r_17, hc_18, hs⟩ := ob1_e hs
                        refine kpi (va_runS (As := [.int ((v7 + (12 : Int32)) - v2), .int (((2 : Int32) * v2) + (1 : Int32))]) (rest := [.int v6]) ⟨hx, hb, hml, hown, hts⟩ (k_X5_stretch l ((v7 + (12 : Int32)) - v2) (((2 : Int32) * v2) + (1 : Int32)) r_17 hc_18) (va_cwS 2 hts (kGood (kgS mG_406 mG_407 mG_332 mG_405)) rfl rfl rfl hd_X5_stretch ⟨Nat.le_of_ble_eq_true rfl, Nat.le_of_ble_eq_true rfl⟩) preEq rfl rfl hl.1 rfl (lv_room (Nat.le_of_ble_eq_true rfl)) dX5_watch_102 ⟨Nat.zero_le _, Nat.zero_le _⟩) ?_
                        refine lv_goto (tgt := 109) hx hb dX5_watch_105 (by decide) ?_
                        refine lv_ior hx hb dX5_watch_109 ?_
                        refine lv_istore (lv' := [(6, .int (v6 ||| r_17)), (0, .ref q5), (1, .int v1), (2, .int v2), (3, .int v3), (4, .int v4), (5, .int v5), (7, .int v7)]) hx hb dX5_watch_110 hl (by decide) rfl (fun ls hl => ?_)
                        refine lv_iinc (v := (v7 + 1)) (lv' := [(7, .int (v7 + 1)), (6, .int (v6 ||| r_17)), (0, .ref q5), (1, .int v1), (2, .int v2), (3, .int v3), (4, .int v4), (5, .int v5)]) hx hb dX5_watch_112 hl (k := 7) rfl rfl (by decide) rfl (fun ls hl => ?_)
                        refine lv_goto (tgt := 71) hx hb dX5_watch_115 (by decide) ?_
                        exact ih_71 v4 v5 (v6 ||| r_17) (v7 + 1) _ _ _ hP hD hS (lv_sub hl [2, 3, 4, 5, 6, 7, 1, 0] rfl) hs
                exact hL_71 fu v4 v5 (0 : Int32) (0 : Int32) _ _ _ hP hD hS (lv_sub hl [2, 3, 4, 5, 6, 7, 1, 0] rfl) hs
              · replace hs := if_n c_8 hs
                refine lv_iload hx hb dX5_watch_52 (lv_at hl 5 rfl) ?_
                obtain ⟨r_9, hc_10, hs⟩ := ob1_e hs
                refine kpi (va_runS (As := [.int v5]) (rest := []) ⟨hx, hb, hml, hown, hts⟩ (k_X5_bits l v5 r_9 hc_10) (va_cwS 1 hts (kGood (kgS mG_338 mG_339 mG_332 mG_328)) rfl rfl rfl hd_X5_bits ⟨Nat.le_of_ble_eq_true rfl, Nat.le_of_ble_eq_true rfl⟩) preEq rfl rfl hl.1 rfl (lv_room (Nat.le_of_ble_eq_true rfl)) dX5_watch_54 ⟨Nat.zero_le _, Nat.zero_le _⟩) ?_
                refine lv_iload hx hb dX5_watch_57 (lv_at hl 4 rfl) ?_
                obtain ⟨r_11, hc_12, hs⟩ := ob1_e hs
                refine kpi (va_runS (As := [.int v4]) (rest := [.int r_9]) ⟨hx, hb, hml, hown, hts⟩ (k_X5_bits l v4 r_11 hc_12) (va_cwS 1 hts (kGood (kgS mG_338 mG_339 mG_332 mG_328)) rfl rfl rfl hd_X5_bits ⟨Nat.le_of_ble_eq_true rfl, Nat.le_of_ble_eq_true rfl⟩) preEq rfl rfl hl.1 rfl (lv_room (Nat.le_of_ble_eq_true rfl)) dX5_watch_59 ⟨Nat.zero_le _, Nat.zero_le _⟩) ?_
                refine lv_icmp_ge (tgt := 136) hx hb dX5_watch_62 (by decide) (fun c_13 => ?_) (fun c_13 => ?_)
                · replace hs := if_p c_13 hs
                  refine lv_iinc (v := (v5 + 1)) (lv' := [(5, .int (v5 + 1)), (0, .ref q5), (1, .int v1), (2, .int v2), (3, .int v3), (4, .int v4)]) hx hb dX5_watch_136 hl (k := 5) rfl rfl (by decide) rfl (fun ls hl => ?_)
                  refine lv_goto (tgt := 39) hx hb dX5_watch_139 (by decide) ?_
                  exact ih_39 v4 (v5 + 1) _ _ _ hP hD hS (lv_sub hl [1, 2, 3, 4, 5, 0] rfl) hs
                · replace hs := if_n c_13 hs
                  refine lv_iconst (v := 0) hx hb dX5_watch_65 (by decide) ?_
                  refine lv_istore (lv' := [(6, .int (0 : Int32)), (0, .ref q5), (1, .int v1), (2, .int v2), (3, .int v3), (4, .int v4), (5, .int v5)]) hx hb dX5_watch_66 hl (by decide) rfl (fun ls hl => ?_)
                  refine lv_iconst (v := 0) hx hb dX5_watch_68 (by decide) ?_
                  refine lv_istore (lv' := [(7, .int (0 : Int32)), (6, .int (0 : Int32)), (0, .ref q5), (1, .int v1), (2, .int v2), (3, .int v3), (4, .int v4), (5, .int v5)]) hx hb dX5_watch_69 hl (by decide) rfl (fun ls hl => ?_)
                  have hL_71 : ∀ (n : Nat) (v4 : Int32) (v5 : Int32) (v6 : Int32) (v7 : Int32) (H : Heap) (locs : List Loc) (ls : Array Slot), va_P (dC, dI) vwCl [(q5, .inr (5, [.ref q5bk, .ref q5nw, .ref q5to, .int th, .ref q5ne, .int si, .ref q5st, .int sn, .ref q5pd, .int re, .int ac, .int fa, .int fw, .ref q5cn, .ref q5ig, .ref q5ik])), (q5bk, .inl (cI, 15, .inl bk)), (q5nw, .inl (cI, 15, .inl nw)), (q5to, .inl (cI, 12, .inl to)), (q5ne, .inl (cI, 8, .inl ne)), (q5st, .inl (cI, 16, .inl st)), (q5pd, .inl (cI, 60, .inl pd)), (q5cn, .inl (cI, 3, .inl cn)), (q5ig, .inl (cI, 120, .inl ig)), (q5ik, .inl (cZ, 2, .inl ik))] H → va_D A [(q5, .inr (5, [.ref q5bk, .ref q5nw, .ref q5to, .int th, .ref q5ne, .int si, .ref q5st, .int sn, .ref q5pd, .int re, .int ac, .int fa, .int fw, .ref q5cn, .ref q5ig, .ref q5ik])), (q5bk, .inl (cI, 15, .inl bk)), (q5nw, .inl (cI, 15, .inl nw)), (q5to, .inl (cI, 12, .inl to)), (q5ne, .inl (cI, 8, .inl ne)), (q5st, .inl (cI, 16, .inl st)), (q5pd, .inl (cI, 60, .inl pd)), (q5cn, .inl (cI, 3, .inl cn)), (q5ig, .inl (cI, 120, .inl ig)), (q5ik, .inl (cZ, 2, .inl ik))] → va_S A s.heap H locs → lv_has ls 8 [(0, .ref q5), (1, .int v1), (2, .int v2), (3, .int v3), (4, .int v4), (5, .int v5), (6, .int v6), (7, .int v7)] → L_X5_watch_71 (L_X5_watch_39 v1 v2 v3 n_39) v1 v2 v4 v5 n v6 v7 = some r0 → W p l e rm_X5_watch s m args below meth c H locs 0 0 Q (F0 m 71 ls []) := by
                    intro n
                    induction n with
                    | zero =>
                      intro v4 v5 v6 v7 H locs ls hP hD hS hl hs
                      replace hs : (none : Option (Int32)) = some r0 := hs
                      cases hs
                    | succ n_71 ih_71 =>
                      intro v4 v5 v6 v7 H locs ls hP hD hS hl hs
                      replace hs : b_X5_watch_71 (L_X5_watch_39 v1 v2 v3 n_39) (L_X5_watch_71 (L_X5_watch_39 v1 v2 v3 n_39) v1 v2 v4 v5 n_71) v1 v2 v4 v5 v6 v7 = some r0 := hs
                      unfold b_X5_watch_71 at hs
                      refine lv_iload hx hb dX5_watch_71 (lv_at hl 7 rfl) ?_
                      refine lv_bipush (v := 12) hx hb dX5_watch_73 (by decide) ?_
                      refine lv_icmp_ge (tgt := 118) hx hb dX5_watch_75 (by decide) (fun c_14 => ?_) (fun c_14 => ?_)
                      · replace hs := if_p c_14 hs
                        refine lv_iload_n hx hb dX5_watch_118 rfl (lv_at hl 1 rfl) ?_
                        refine lv_iload hx hb dX5_watch_119 (lv_at hl 6 rfl) ?_
                        refine lv_iconst (v := -1) hx hb dX5_watch_121 (by decide) ?_
                        refine lv_ixor hx hb dX5_watch_122 ?_
                        refine lv_iand hx hb dX5_watch_123 ?_
                        refine lv_if_ne (tgt := 132) hx hb dX5_watch_124 (by decide) (fun c_15 => ?_) (fun c_15 => ?_)
                        · replace hs := if_n c_15 hs
                          refine lv_iload hx hb dX5_watch_132 (lv_at hl 4 rfl) ?_
                          refine lv_istore (lv' := [(4, .int v4), (0, .ref q5), (1, .int v1), (2, .int v2), (3, .int v3), (5, .int v5), (6, .int v6), (7, .int v7)]) hx hb dX5_watch_134 hl (by decide) rfl (fun ls hl => ?_)
                          refine lv_iinc (v := (v5 + 1)) (lv' := [(5, .int (v5 + 1)), (4, .int v4), (0, .ref q5), (1, .int v1), (2, .int v2), (3, .int v3), (6, .int v6), (7, .int v7)]) hx hb dX5_watch_136 hl (k := 5) rfl rfl (by decide) rfl (fun ls hl => ?_)
                          refine lv_goto (tgt := 39) hx hb dX5_watch_139 (by decide) ?_
                          exact ih_39 v4 (v5 + 1) _ _ _ hP hD hS (lv_sub hl [2, 3, 4, 5, 1, 0] rfl) hs
                        · replace hs := if_p c_15 hs
                          refine lv_iload hx hb dX5_watch_127 (lv_at hl 5 rfl) ?_
                          refine lv_goto (tgt := 134) hx hb dX5_watch_129 (by decide) ?_
                          refine lv_istore (lv' := [(4, .int v5), (0, .ref q5), (1, .int v1), (2, .int v2), (3, .int v3), (5, .int v5), (6, .int v6), (7, .int v7)]) hx hb dX5_watch_134 hl (by decide) rfl (fun ls hl => ?_)
                          refine lv_iinc (v := (v5 + 1)) (lv' := [(5, .int (v5 + 1)), (4, .int v5), (0, .ref q5), (1, .int v1), (2, .int v2), (3, .int v3), (6, .int v6), (7, .int v7)]) hx hb dX5_watch_136 hl (k := 5) rfl rfl (by decide) rfl (fun ls hl => ?_)
                          refine lv_goto (tgt := 39) hx hb dX5_watch_139 (by decide) ?_
                          exact ih_39 v5 (v5 + 1) _ _ _ hP hD hS (lv_sub hl [2, 3, 4, 5, 1, 0] rfl) hs
                      · replace hs := if_n c_14 hs
                        refine lv_iload hx hb dX5_watch_78 (lv_at hl 6 rfl) ?_
                        refine lv_iload hx hb dX5_watch_80 (lv_at hl 5 rfl) ?_
                        refine lv_iload hx hb dX5_watch_82 (lv_at hl 7 rfl) ?_
                        refine kpi (va_runS (As := [.int v5, .int v7]) (rest := [.int v6]) ⟨hx, hb, hml, hown, hts⟩ (k_X5_has l v5 v7 _ rfl) (va_cwS 2 hts (kGood (kgS mG_352 mG_353 mG_332 mG_327)) rfl rfl rfl hd_X5_has ⟨Nat.le_of_ble_eq_true rfl, Nat.le_of_ble_eq_true rfl⟩) preEq rfl rfl hl.1 rfl (lv_room (Nat.le_of_ble_eq_true rfl)) dX5_watch_84 ⟨Nat.zero_le _, Nat.zero_le _⟩) ?_
                        refine lv_if_eq (tgt := 108) hx hb dX5_watch_87 (by decide) (fun c_16 => ?_) (fun c_16 => ?_)
                        · replace hs := if_p c_16 hs
                          refine lv_iconst (v := 0) hx hb dX5_watch_108 (by decide) ?_
                          refine lv_ior hx hb dX5_watch_109 ?_
                          refine lv_istore (lv' := [(6, .int (v6 ||| (0 : Int32))), (0, .ref q5), (1, .int v1), (2, .int v2), (3, .int v3), (4, .int v4), (5, .int v5), (7, .int v7)]) hx hb dX5_watch_110 hl (by decide) rfl (fun ls hl => ?_)
                          refine lv_iinc (v := (v7 + 1)) (lv' := [(7, .int (v7 + 1)), (6, .int (v6 ||| (0 : Int32))), (0, .ref q5), (1, .int v1), (2, .int v2), (3, .int v3), (4, .int v4), (5, .int v5)]) hx hb dX5_watch_112 hl (k := 7) rfl rfl (by decide) rfl (fun ls hl => ?_)
                          refine lv_goto (tgt := 71) hx hb dX5_watch_115 (by decide) ?_
                          exact ih_71 v4 v5 (v6 ||| (0 : Int32)) (v7 + 1) _ _ _ hP hD hS (lv_sub hl [2, 3, 4, 5, 6, 7, 1, 0] rfl) hs
                        · replace hs := if_n c_16 hs
                          refine lv_iload hx hb dX5_watch_90 (lv_at hl 7 rfl) ?_
                          refine lv_bipush (v := 12) hx hb dX5_watch_92 (by decide) ?_
                          refine lv_iadd hx hb dX5_watch_94 ?_
                          refine lv_iload_n hx hb dX5_watch_95 rfl (lv_at hl 2 rfl) ?_
                          refine lv_isub hx hb dX5_watch_96 ?_
                          refine lv_iconst (v := 2) hx hb dX5_watch_97 (by decide) ?_
                          refine lv_iload_n hx hb dX5_watch_98 rfl (lv_at hl 2 rfl) ?_
                          refine lv_imul hx hb dX5_watch_99 ?_
                          refine lv_iconst (v := 1) hx hb dX5_watch_100 (by decide) ?_
                          refine lv_iadd hx hb dX5_watch_101 ?_
                          obtain ⟨r_17, hc_18, hs⟩ := ob1_e hs
                          refine kpi (va_runS (As := [.int ((v7 + (12 : Int32)) - v2), .int (((2 : Int32) * v2) + (1 : Int32))]) (rest := [.int v6]) ⟨hx, hb, hml, hown, hts⟩ (k_X5_stretch l ((v7 + (12 : Int32)) - v2) (((2 : Int32) * v2) + (1 : Int32)) r_17 hc_18) (va_cwS 2 hts (kGood (kgS mG_406 mG_407 mG_332 mG_405)) rfl rfl rfl hd_X5_stretch ⟨Nat.le_of_ble_eq_true rfl, Nat.le_of_ble_eq_true rfl⟩) preEq rfl rfl hl.1 rfl (lv_room (Nat.le_of_ble_eq_true rfl)) dX5_watch_102 ⟨Nat.zero_le _, Nat.zero_le _⟩) ?_
                          refine lv_goto (tgt := 109) hx hb dX5_watch_105 (by decide) ?_
                          refine lv_ior hx hb dX5_watch_109 ?_
                          refine lv_istore (lv' := [(6, .int (v6 ||| r_17)), (0, .ref q5), (1, .int v1), (2, .int v2), (3, .int v3), (4, .int v4), (5, .int v5), (7, .int v7)]) hx hb dX5_watch_110 hl (by decide) rfl (fun ls hl => ?_)
                          refine lv_iinc (v := (v7 + 1)) (lv' := [(7, .int (v7 + 1)), (6, .int (v6 ||| r_17)), (0, .ref q5), (1, .int v1), (2, .int v2), (3, .int v3), (4, .int v4), (5, .int v5)]) hx hb dX5_watch_112 hl (k := 7) rfl rfl (by decide) rfl (fun ls hl => ?_)
                          refine lv_goto (tgt := 71) hx hb dX5_watch_115 (by decide) ?_
                          exact ih_71 v4 v5 (v6 ||| r_17) (v7 + 1) _ _ _ hP hD hS (lv_sub hl [2, 3, 4, 5, 6, 7, 1, 0] rfl) hs
                  exact hL_71 fu v4 v5 (0 : Int32) (0 : Int32) _ _ _ hP hD hS (lv_sub hl [2, 3, 4, 5, 6, 7, 1, 0] rfl) hs
        exact hL_39 fu (-6 : Int32) (0 : Int32) _ _ _ hP hD hS (lv_sub hl [2, 3, 4, 5, 1, 0] rfl) hs
      · replace hs := if_p c_3 hs
        refine lv_bipush (v := -2) hx hb dX5_watch_29 (by decide) ?_
        cases hs
        exact hret _ _ _ _ hP hD hS (vp_nar_int _) dX5_watch_31
abbrev rm_X5_seen : Room := { frames := 1, cells := 0, slots := 0, locals := 22 }
theorem hd_X5_seen : yX5_seen.cls ≠ "java/lang/invoke/MethodHandle" ∧ yX5_seen.cls ≠ "java/lang/invoke/VarHandle" ∧ (parseMethodDescriptor yX5_seen.desc).map (fun d => d.parameters.length) = some 2 := by decide +kernel
set_option maxHeartbeats 4000000 in
set_option maxRecDepth 100000 in
theorem k_X5_seen (l : Launch) (dC : Nat → ClassId) (dI : Nat → Nat → Nat) (cI cZ cS : ClassId) (q5 q5bk q5nw q5to q5ne q5st q5pd q5cn q5ig q5ik : Nat) (sz : Nat) (th : Int32) (si : Int32) (sn : Int32) (re : Int32) (ac : Int32) (fa : Int32) (fw : Int32) (bk : Ar) (nw : Ar) (to : Ar) (ne : Ar) (st : Ar) (pd : Ar) (cn : Ar) (ig : Ar) (ik : Ar) (v1 : Int32) (v2 : Int32) (r0 : Int32) (si_o : Int32) (st_o : Ar) (hs : m_X5_seen v1 v2 si st = some (r0, si_o, st_o)) : Met l yX5_seen (.code yX5_seen cX5_seen 3 (some .int) :: kG) rm_X5_seen (va_Pc [.ref q5, .int v1, .int v2] (kW (dC, dI) cI cZ cS [(q5, .inr (5, [.ref q5bk, .ref q5nw, .ref q5to, .int th, .ref q5ne, .int si, .ref q5st, .int sn, .ref q5pd, .int re, .int ac, .int fa, .int fw, .ref q5cn, .ref q5ig, .ref q5ik])), (q5bk, .inl (cI, 15, .inl bk)), (q5nw, .inl (cI, 15, .inl nw)), (q5to, .inl (cI, 12, .inl to)), (q5ne, .inl (cI, 8, .inl ne)), (q5st, .inl (cI, 16, .inl st)), (q5pd, .inl (cI, 60, .inl pd)), (q5cn, .inl (cI, 3, .inl cn)), (q5ig, .inl (cI, 120, .inl ig)), (q5ik, .inl (cZ, 2, .inl ik))] sz)) (kQi (dC, dI) [(q5, .inr (5, [.ref q5bk, .ref q5nw, .ref q5to, .int th, .ref q5ne, .int si, .ref q5st, .int sn, .ref q5pd, .int re, .int ac, .int fa, .int fw, .ref q5cn, .ref q5ig, .ref q5ik])), (q5bk, .inl (cI, 15, .inl bk)), (q5nw, .inl (cI, 15, .inl nw)), (q5to, .inl (cI, 12, .inl to)), (q5ne, .inl (cI, 8, .inl ne)), (q5st, .inl (cI, 16, .inl st)), (q5pd, .inl (cI, 60, .inl pd)), (q5cn, .inl (cI, 3, .inl cn)), (q5ig, .inl (cI, 120, .inl ig)), (q5ik, .inl (cZ, 2, .inl ik))] [(q5, .inr (5, [.ref q5bk, .ref q5nw, .ref q5to, .int th, .ref q5ne, .int si_o, .ref q5st, .int sn, .ref q5pd, .int re, .int ac, .int fa, .int fw, .ref q5cn, .ref q5ig, .ref q5ik])), (q5bk, .inl (cI, 15, .inl bk)), (q5nw, .inl (cI, 15, .inl nw)), (q5to, .inl (cI, 12, .inl to)), (q5ne, .inl (cI, 8, .inl ne)), (q5st, .inl (cI, 16, .inl st_o)), (q5pd, .inl (cI, 60, .inl pd)), (q5cn, .inl (cI, 3, .inl cn)), (q5ig, .inl (cI, 120, .inl ig)), (q5ik, .inl (cZ, 2, .inl ik))] sz r0) 0 0 (va_A [(q5, .inr (5, [.ref q5bk, .ref q5nw, .ref q5to, .int th, .ref q5ne, .int si, .ref q5st, .int sn, .ref q5pd, .int re, .int ac, .int fa, .int fw, .ref q5cn, .ref q5ig, .ref q5ik])), (q5bk, .inl (cI, 15, .inl bk)), (q5nw, .inl (cI, 15, .inl nw)), (q5to, .inl (cI, 12, .inl to)), (q5ne, .inl (cI, 8, .inl ne)), (q5st, .inl (cI, 16, .inl st)), (q5pd, .inl (cI, 60, .inl pd)), (q5cn, .inl (cI, 3, .inl cn)), (q5ig, .inl (cI, 120, .inl ig)), (q5ik, .inl (cZ, 2, .inl ik))] sz) := by
  refine kMi (own := RX5) (ty := .int) rfl (by decide) rfl ?_ (Nat.le_of_ble_eq_true rfl)
  intro p e s m args below meth c Q A CF hK hN hA hP hD hret ls hl
  have hS : va_S A s.heap s.heap [] := va_S.rf
  obtain ⟨hx, hb, hml, hown, hts⟩ := id CF
  have hl : lv_has ls 3 [(0, .ref q5), (1, .int v1), (2, .int v2)] := hl
  unfold m_X5_seen at hs
  refine lv_iload_n hx hb dX5_seen_0 rfl (lv_at hl 1 rfl) ?_
  refine lv_iconst (v := 0) hx hb dX5_seen_1 (by decide) ?_
  refine lv_bipush (v := 9) hx hb dX5_seen_2 (by decide) ?_
  refine kpi (va_runS (As := [.int v1, .int (0 : Int32), .int (9 : Int32)]) (rest := []) ⟨hx, hb, hml, hown, hts⟩ (k_X5_in l v1 (0 : Int32) (9 : Int32) _ rfl) (va_cwS 3 hts (kGood (kgS mG_330 mG_331 mG_332 mG_326)) rfl rfl rfl hd_X5_in ⟨Nat.le_of_ble_eq_true rfl, Nat.le_of_ble_eq_true rfl⟩) preEq rfl rfl hl.1 rfl (lv_room (Nat.le_of_ble_eq_true rfl)) dX5_seen_4 ⟨Nat.zero_le _, Nat.zero_le _⟩) ?_
  refine lv_if_eq (tgt := 19) hx hb dX5_seen_7 (by decide) (fun c_1 => ?_) (fun c_1 => ?_)
  · replace hs := if_p c_1 hs
    refine lv_bipush (v := -2) hx hb dX5_seen_19 (by decide) ?_
    cases hs
    exact hret _ _ _ _ hP hD hS (vp_nar_int _) dX5_seen_21
  · replace hs := if_n c_1 hs
    refine lv_iload_n hx hb dX5_seen_10 rfl (lv_at hl 2 rfl) ?_
    refine lv_iconst (v := 0) hx hb dX5_seen_11 (by decide) ?_
    refine lv_iconst (v := 2) hx hb dX5_seen_12 (by decide) ?_
    refine kpi (va_runS (As := [.int v2, .int (0 : Int32), .int (2 : Int32)]) (rest := []) ⟨hx, hb, hml, hown, hts⟩ (k_X5_in l v2 (0 : Int32) (2 : Int32) _ rfl) (va_cwS 3 hts (kGood (kgS mG_330 mG_331 mG_332 mG_326)) rfl rfl rfl hd_X5_in ⟨Nat.le_of_ble_eq_true rfl, Nat.le_of_ble_eq_true rfl⟩) preEq rfl rfl hl.1 rfl (lv_room (Nat.le_of_ble_eq_true rfl)) dX5_seen_13 ⟨Nat.zero_le _, Nat.zero_le _⟩) ?_
    refine lv_if_ne (tgt := 22) hx hb dX5_seen_16 (by decide) (fun c_2 => ?_) (fun c_2 => ?_)
    · replace hs := if_n c_2 hs
      refine lv_aload_n hx hb dX5_seen_22 rfl (lv_at hl 0 rfl) ?_
      refine va_get (D := (dC, dI)) (ci := 5) (v := .int si) (C := RX5) (T := TX5) (N := 16) hx hb hts (fun w h => kg1 (iG_5 w h)) hown hK hP 0 rfl rfl 5 (by decide) (hts _ (kg1 mG_414)) (fun _ h9 => h9) rfl dX5_seen_23 ?_
      refine lv_bipush (v := 8) hx hb dX5_seen_26 (by decide) ?_
      refine lv_icmp_ne (tgt := 34) hx hb dX5_seen_28 (by decide) (fun c_3 => ?_) (fun c_3 => ?_)
      · replace hs := if_n c_3 hs
        refine lv_aload_n hx hb dX5_seen_34 rfl (lv_at hl 0 rfl) ?_
        refine va_get (D := (dC, dI)) (ci := 5) (v := .ref q5st) (C := RX5) (T := TX5) (N := 16) hx hb hts (fun w h => kg1 (iG_5 w h)) hown hK hP 0 rfl rfl 6 (by decide) (hts _ (kg1 mG_320)) (fun _ h9 => h9) rfl dX5_seen_35 ?_
        refine lv_iconst (v := 2) hx hb dX5_seen_38 (by decide) ?_
        refine lv_aload_n hx hb dX5_seen_39 rfl (lv_at hl 0 rfl) ?_
        refine va_get (D := (dC, dI)) (ci := 5) (v := .int si) (C := RX5) (T := TX5) (N := 16) hx hb hts (fun w h => kg1 (iG_5 w h)) hown hK hP 0 rfl rfl 5 (by decide) (hts _ (kg1 mG_414)) (fun _ h9 => h9) rfl dX5_seen_40 ?_
        refine lv_imul hx hb dX5_seen_43 ?_
        refine lv_iload_n hx hb dX5_seen_44 rfl (lv_at hl 1 rfl) ?_
        obtain ⟨hg_4, hs⟩ := gd_e hs
        refine kast hx hb hK hP hD hS 5 0 rfl rfl (j := (Int32.toNatClampNeg ((2 : Int32) * si))) rfl (inb_e hg_4) dX5_seen_45 (fun H locs hP hD hS => ?_)
        have hP : va_P (dC, dI) vwCl [(q5, .inr (5, [.ref q5bk, .ref q5nw, .ref q5to, .int th, .ref q5ne, .int si, .ref q5st, .int sn, .ref q5pd, .int re, .int ac, .int fa, .int fw, .ref q5cn, .ref q5ig, .ref q5ik])), (q5bk, .inl (cI, 15, .inl bk)), (q5nw, .inl (cI, 15, .inl nw)), (q5to, .inl (cI, 12, .inl to)), (q5ne, .inl (cI, 8, .inl ne)), (q5st, .inl (cI, 16, .inl (upd st (Int32.toNatClampNeg ((2 : Int32) * si)) v1))), (q5pd, .inl (cI, 60, .inl pd)), (q5cn, .inl (cI, 3, .inl cn)), (q5ig, .inl (cI, 120, .inl ig)), (q5ik, .inl (cZ, 2, .inl ik))] H := hP
        have hD : va_D A [(q5, .inr (5, [.ref q5bk, .ref q5nw, .ref q5to, .int th, .ref q5ne, .int si, .ref q5st, .int sn, .ref q5pd, .int re, .int ac, .int fa, .int fw, .ref q5cn, .ref q5ig, .ref q5ik])), (q5bk, .inl (cI, 15, .inl bk)), (q5nw, .inl (cI, 15, .inl nw)), (q5to, .inl (cI, 12, .inl to)), (q5ne, .inl (cI, 8, .inl ne)), (q5st, .inl (cI, 16, .inl (upd st (Int32.toNatClampNeg ((2 : Int32) * si)) v1))), (q5pd, .inl (cI, 60, .inl pd)), (q5cn, .inl (cI, 3, .inl cn)), (q5ig, .inl (cI, 120, .inl ig)), (q5ik, .inl (cZ, 2, .inl ik))] := hD
        refine lv_aload_n hx hb dX5_seen_46 rfl (lv_at hl 0 rfl) ?_
        refine va_get (D := (dC, dI)) (ci := 5) (v := .ref q5st) (C := RX5) (T := TX5) (N := 16) hx hb hts (fun w h => kg1 (iG_5 w h)) hown hK hP 0 rfl rfl 6 (by decide) (hts _ (kg1 mG_320)) (fun _ h9 => h9) rfl dX5_seen_47 ?_
        refine lv_iconst (v := 2) hx hb dX5_seen_50 (by decide) ?_
        refine lv_aload_n hx hb dX5_seen_51 rfl (lv_at hl 0 rfl) ?_
        refine va_get (D := (dC, dI)) (ci := 5) (v := .int si) (C := RX5) (T := TX5) (N := 16) hx hb hts (fun w h => kg1 (iG_5 w h)) hown hK hP 0 rfl rfl 5 (by decide) (hts _ (kg1 mG_414)) (fun _ h9 => h9) rfl dX5_seen_52 ?_
        refine lv_imul hx hb dX5_seen_55 ?_
        refine lv_iconst (v := 1) hx hb dX5_seen_56 (by decide) ?_
        refine lv_iadd hx hb dX5_seen_57 ?_
        refine lv_iload_n hx hb dX5_seen_58 rfl (lv_at hl 2 rfl) ?_
        obtain ⟨hg_5, hs⟩ := gd_e hs
        refine kast hx hb hK hP hD hS 5 0 rfl rfl (j := (Int32.toNatClampNeg (((2 : Int32) * si) + (1 : Int32)))) rfl (inb_e hg_5) dX5_seen_59 (fun H locs hP hD hS => ?_)
        have hP : va_P (dC, dI) vwCl [(q5, .inr (5, [.ref q5bk, .ref q5nw, .ref q5to, .int th, .ref q5ne, .int si, .ref q5st, .int sn, .ref q5pd, .int re, .int ac, .int fa, .int fw, .ref q5cn, .ref q5ig, .ref q5ik])), (q5bk, .inl (cI, 15, .inl bk)), (q5nw, .inl (cI, 15, .inl nw)), (q5to, .inl (cI, 12, .inl to)), (q5ne, .inl (cI, 8, .inl ne)), (q5st, .inl (cI, 16, .inl (upd (upd st (Int32.toNatClampNeg ((2 : Int32) * si)) v1) (Int32.toNatClampNeg (((2 : Int32) * si) + (1 : Int32))) v2))), (q5pd, .inl (cI, 60, .inl pd)), (q5cn, .inl (cI, 3, .inl cn)), (q5ig, .inl (cI, 120, .inl ig)), (q5ik, .inl (cZ, 2, .inl ik))] H := hP
        have hD : va_D A [(q5, .inr (5, [.ref q5bk, .ref q5nw, .ref q5to, .int th, .ref q5ne, .int si, .ref q5st, .int sn, .ref q5pd, .int re, .int ac, .int fa, .int fw, .ref q5cn, .ref q5ig, .ref q5ik])), (q5bk, .inl (cI, 15, .inl bk)), (q5nw, .inl (cI, 15, .inl nw)), (q5to, .inl (cI, 12, .inl to)), (q5ne, .inl (cI, 8, .inl ne)), (q5st, .inl (cI, 16, .inl (upd (upd st (Int32.toNatClampNeg ((2 : Int32) * si)) v1) (Int32.toNatClampNeg (((2 : Int32) * si) + (1 : Int32))) v2))), (q5pd, .inl (cI, 60, .inl pd)), (q5cn, .inl (cI, 3, .inl cn)), (q5ig, .inl (cI, 120, .inl ig)), (q5ik, .inl (cZ, 2, .inl ik))] := hD
        refine lv_aload_n hx hb dX5_seen_60 rfl (lv_at hl 0 rfl) ?_
        refine lv_dup hx hb dX5_seen_61 rfl ?_
        refine va_get (D := (dC, dI)) (ci := 5) (v := .int si) (C := RX5) (T := TX5) (N := 16) hx hb hts (fun w h => kg1 (iG_5 w h)) hown hK hP 0 rfl rfl 5 (by decide) (hts _ (kg1 mG_414)) (fun _ h9 => h9) rfl dX5_seen_62 ?_
        refine lv_iconst (v := 1) hx hb dX5_seen_65 (by decide) ?_
        refine lv_iadd hx hb dX5_seen_66 ?_
        refine va_put (D := (dC, dI)) (ci := 5) (v := .int (si + (1 : Int32))) (ty := .int) (C := RX5) (T := TX5) (N := 16) hx hb hts (fun w h => kg1 (iG_5 w h)) tyX5 tyX5_ok nmX5 hown hK hP hD hS 0 rfl rfl 5 (by decide) (hts _ (kg1 mG_414)) (fun _ h9 => h9) rfl rfl rfl rfl (Nat.le_of_ble_eq_true rfl) dX5_seen_67 (fun H locs hP hD hS => ?_)
        have hP : va_P (dC, dI) vwCl [(q5, .inr (5, [.ref q5bk, .ref q5nw, .ref q5to, .int th, .ref q5ne, .int (si + (1 : Int32)), .ref q5st, .int sn, .ref q5pd, .int re, .int ac, .int fa, .int fw, .ref q5cn, .ref q5ig, .ref q5ik])), (q5bk, .inl (cI, 15, .inl bk)), (q5nw, .inl (cI, 15, .inl nw)), (q5to, .inl (cI, 12, .inl to)), (q5ne, .inl (cI, 8, .inl ne)), (q5st, .inl (cI, 16, .inl (upd (upd st (Int32.toNatClampNeg ((2 : Int32) * si)) v1) (Int32.toNatClampNeg (((2 : Int32) * si) + (1 : Int32))) v2))), (q5pd, .inl (cI, 60, .inl pd)), (q5cn, .inl (cI, 3, .inl cn)), (q5ig, .inl (cI, 120, .inl ig)), (q5ik, .inl (cZ, 2, .inl ik))] H := hP
        have hD : va_D A [(q5, .inr (5, [.ref q5bk, .ref q5nw, .ref q5to, .int th, .ref q5ne, .int (si + (1 : Int32)), .ref q5st, .int sn, .ref q5pd, .int re, .int ac, .int fa, .int fw, .ref q5cn, .ref q5ig, .ref q5ik])), (q5bk, .inl (cI, 15, .inl bk)), (q5nw, .inl (cI, 15, .inl nw)), (q5to, .inl (cI, 12, .inl to)), (q5ne, .inl (cI, 8, .inl ne)), (q5st, .inl (cI, 16, .inl (upd (upd st (Int32.toNatClampNeg ((2 : Int32) * si)) v1) (Int32.toNatClampNeg (((2 : Int32) * si) + (1 : Int32))) v2))), (q5pd, .inl (cI, 60, .inl pd)), (q5cn, .inl (cI, 3, .inl cn)), (q5ig, .inl (cI, 120, .inl ig)), (q5ik, .inl (cZ, 2, .inl ik))] := hD
        refine lv_aload_n hx hb dX5_seen_70 rfl (lv_at hl 0 rfl) ?_
        refine va_get (D := (dC, dI)) (ci := 5) (v := .int (si + (1 : Int32))) (C := RX5) (T := TX5) (N := 16) hx hb hts (fun w h => kg1 (iG_5 w h)) hown hK hP 0 rfl rfl 5 (by decide) (hts _ (kg1 mG_414)) (fun _ h9 => h9) rfl dX5_seen_71 ?_
        cases hs
        exact hret _ _ _ _ hP hD hS (vp_nar_int _) dX5_seen_74
      · replace hs := if_p c_3 hs
        refine lv_bipush (v := -4) hx hb dX5_seen_31 (by decide) ?_
        cases hs
        exact hret _ _ _ _ hP hD hS (vp_nar_int _) dX5_seen_33
    · replace hs := if_p c_2 hs
      refine lv_bipush (v := -2) hx hb dX5_seen_19 (by decide) ?_
      cases hs
      exact hret _ _ _ _ hP hD hS (vp_nar_int _) dX5_seen_21
abbrev rm_X5_forget : Room := { frames := 0, cells := 0, slots := 0, locals := 0 }
theorem hd_X5_forget : yX5_forget.cls ≠ "java/lang/invoke/MethodHandle" ∧ yX5_forget.cls ≠ "java/lang/invoke/VarHandle" ∧ (parseMethodDescriptor yX5_forget.desc).map (fun d => d.parameters.length) = some 0 := by decide +kernel
set_option maxHeartbeats 4000000 in
set_option maxRecDepth 100000 in
theorem k_X5_forget (l : Launch) (dC : Nat → ClassId) (dI : Nat → Nat → Nat) (cI cZ cS : ClassId) (q5 q5bk q5nw q5to q5ne q5st q5pd q5cn q5ig q5ik : Nat) (sz : Nat) (th : Int32) (si : Int32) (sn : Int32) (re : Int32) (ac : Int32) (fa : Int32) (fw : Int32) (bk : Ar) (nw : Ar) (to : Ar) (ne : Ar) (st : Ar) (pd : Ar) (cn : Ar) (ig : Ar) (ik : Ar)  (r0 : Int32) (si_o : Int32) (hs : m_X5_forget si = some (r0, si_o)) : Met l yX5_forget (.code yX5_forget cX5_forget 2 (some .int) :: kG) rm_X5_forget (va_Pc [.ref q5] (kW (dC, dI) cI cZ cS [(q5, .inr (5, [.ref q5bk, .ref q5nw, .ref q5to, .int th, .ref q5ne, .int si, .ref q5st, .int sn, .ref q5pd, .int re, .int ac, .int fa, .int fw, .ref q5cn, .ref q5ig, .ref q5ik])), (q5bk, .inl (cI, 15, .inl bk)), (q5nw, .inl (cI, 15, .inl nw)), (q5to, .inl (cI, 12, .inl to)), (q5ne, .inl (cI, 8, .inl ne)), (q5st, .inl (cI, 16, .inl st)), (q5pd, .inl (cI, 60, .inl pd)), (q5cn, .inl (cI, 3, .inl cn)), (q5ig, .inl (cI, 120, .inl ig)), (q5ik, .inl (cZ, 2, .inl ik))] sz)) (kQi (dC, dI) [(q5, .inr (5, [.ref q5bk, .ref q5nw, .ref q5to, .int th, .ref q5ne, .int si, .ref q5st, .int sn, .ref q5pd, .int re, .int ac, .int fa, .int fw, .ref q5cn, .ref q5ig, .ref q5ik])), (q5bk, .inl (cI, 15, .inl bk)), (q5nw, .inl (cI, 15, .inl nw)), (q5to, .inl (cI, 12, .inl to)), (q5ne, .inl (cI, 8, .inl ne)), (q5st, .inl (cI, 16, .inl st)), (q5pd, .inl (cI, 60, .inl pd)), (q5cn, .inl (cI, 3, .inl cn)), (q5ig, .inl (cI, 120, .inl ig)), (q5ik, .inl (cZ, 2, .inl ik))] [(q5, .inr (5, [.ref q5bk, .ref q5nw, .ref q5to, .int th, .ref q5ne, .int si_o, .ref q5st, .int sn, .ref q5pd, .int re, .int ac, .int fa, .int fw, .ref q5cn, .ref q5ig, .ref q5ik])), (q5bk, .inl (cI, 15, .inl bk)), (q5nw, .inl (cI, 15, .inl nw)), (q5to, .inl (cI, 12, .inl to)), (q5ne, .inl (cI, 8, .inl ne)), (q5st, .inl (cI, 16, .inl st)), (q5pd, .inl (cI, 60, .inl pd)), (q5cn, .inl (cI, 3, .inl cn)), (q5ig, .inl (cI, 120, .inl ig)), (q5ik, .inl (cZ, 2, .inl ik))] sz r0) 0 0 (va_A [(q5, .inr (5, [.ref q5bk, .ref q5nw, .ref q5to, .int th, .ref q5ne, .int si, .ref q5st, .int sn, .ref q5pd, .int re, .int ac, .int fa, .int fw, .ref q5cn, .ref q5ig, .ref q5ik])), (q5bk, .inl (cI, 15, .inl bk)), (q5nw, .inl (cI, 15, .inl nw)), (q5to, .inl (cI, 12, .inl to)), (q5ne, .inl (cI, 8, .inl ne)), (q5st, .inl (cI, 16, .inl st)), (q5pd, .inl (cI, 60, .inl pd)), (q5cn, .inl (cI, 3, .inl cn)), (q5ig, .inl (cI, 120, .inl ig)), (q5ik, .inl (cZ, 2, .inl ik))] sz) := by
  refine kMi (own := RX5) (ty := .int) rfl (by decide) rfl ?_ (Nat.le_of_ble_eq_true rfl)
  intro p e s m args below meth c Q A CF hK hN hA hP hD hret ls hl
  have hS : va_S A s.heap s.heap [] := va_S.rf
  obtain ⟨hx, hb, hml, hown, hts⟩ := id CF
  have hl : lv_has ls 2 [(0, .ref q5)] := hl
  unfold m_X5_forget at hs
  refine lv_aload_n hx hb dX5_forget_0 rfl (lv_at hl 0 rfl) ?_
  refine va_get (D := (dC, dI)) (ci := 5) (v := .int si) (C := RX5) (T := TX5) (N := 16) hx hb hts (fun w h => kg1 (iG_5 w h)) hown hK hP 0 rfl rfl 5 (by decide) (hts _ (kg1 mG_414)) (fun _ h9 => h9) rfl dX5_forget_1 ?_
  refine lv_istore_n (lv' := [(1, .int si), (0, .ref q5)]) hx hb dX5_forget_4 rfl hl (by decide) rfl (fun ls hl => ?_)
  refine lv_aload_n hx hb dX5_forget_5 rfl (lv_at hl 1 rfl) ?_
  refine lv_iconst (v := 0) hx hb dX5_forget_6 (by decide) ?_
  refine va_put (D := (dC, dI)) (ci := 5) (v := .int (0 : Int32)) (ty := .int) (C := RX5) (T := TX5) (N := 16) hx hb hts (fun w h => kg1 (iG_5 w h)) tyX5 tyX5_ok nmX5 hown hK hP hD hS 0 rfl rfl 5 (by decide) (hts _ (kg1 mG_414)) (fun _ h9 => h9) rfl rfl rfl rfl (Nat.le_of_ble_eq_true rfl) dX5_forget_7 (fun H locs hP hD hS => ?_)
  have hP : va_P (dC, dI) vwCl [(q5, .inr (5, [.ref q5bk, .ref q5nw, .ref q5to, .int th, .ref q5ne, .int (0 : Int32), .ref q5st, .int sn, .ref q5pd, .int re, .int ac, .int fa, .int fw, .ref q5cn, .ref q5ig, .ref q5ik])), (q5bk, .inl (cI, 15, .inl bk)), (q5nw, .inl (cI, 15, .inl nw)), (q5to, .inl (cI, 12, .inl to)), (q5ne, .inl (cI, 8, .inl ne)), (q5st, .inl (cI, 16, .inl st)), (q5pd, .inl (cI, 60, .inl pd)), (q5cn, .inl (cI, 3, .inl cn)), (q5ig, .inl (cI, 120, .inl ig)), (q5ik, .inl (cZ, 2, .inl ik))] H := hP
  have hD : va_D A [(q5, .inr (5, [.ref q5bk, .ref q5nw, .ref q5to, .int th, .ref q5ne, .int (0 : Int32), .ref q5st, .int sn, .ref q5pd, .int re, .int ac, .int fa, .int fw, .ref q5cn, .ref q5ig, .ref q5ik])), (q5bk, .inl (cI, 15, .inl bk)), (q5nw, .inl (cI, 15, .inl nw)), (q5to, .inl (cI, 12, .inl to)), (q5ne, .inl (cI, 8, .inl ne)), (q5st, .inl (cI, 16, .inl st)), (q5pd, .inl (cI, 60, .inl pd)), (q5cn, .inl (cI, 3, .inl cn)), (q5ig, .inl (cI, 120, .inl ig)), (q5ik, .inl (cZ, 2, .inl ik))] := hD
  refine lv_iload_n hx hb dX5_forget_10 rfl (lv_at hl 0 rfl) ?_
  cases hs
  exact hret _ _ _ _ hP hD hS (vp_nar_int _) dX5_forget_11
abbrev rm_X5_toneSet : Room := { frames := 1, cells := 0, slots := 0, locals := 22 }
theorem hd_X5_toneSet : yX5_toneSet.cls ≠ "java/lang/invoke/MethodHandle" ∧ yX5_toneSet.cls ≠ "java/lang/invoke/VarHandle" ∧ (parseMethodDescriptor yX5_toneSet.desc).map (fun d => d.parameters.length) = some 0 := by decide +kernel
set_option maxHeartbeats 4000000 in
set_option maxRecDepth 100000 in
theorem k_X5_toneSet (l : Launch) (dC : Nat → ClassId) (dI : Nat → Nat → Nat) (cI cZ cS : ClassId) (q5 q5bk q5nw q5to q5ne q5st q5pd q5cn q5ig q5ik : Nat) (sz : Nat) (th : Int32) (si : Int32) (sn : Int32) (re : Int32) (ac : Int32) (fa : Int32) (fw : Int32) (bk : Ar) (nw : Ar) (to : Ar) (ne : Ar) (st : Ar) (pd : Ar) (cn : Ar) (ig : Ar) (ik : Ar)  (r0 : Int32) (hs : m_X5_toneSet si st = some r0) : Met l yX5_toneSet (.code yX5_toneSet cX5_toneSet 5 (some .int) :: kG) rm_X5_toneSet (va_Pc [.ref q5] (kW (dC, dI) cI cZ cS [(q5, .inr (5, [.ref q5bk, .ref q5nw, .ref q5to, .int th, .ref q5ne, .int si, .ref q5st, .int sn, .ref q5pd, .int re, .int ac, .int fa, .int fw, .ref q5cn, .ref q5ig, .ref q5ik])), (q5bk, .inl (cI, 15, .inl bk)), (q5nw, .inl (cI, 15, .inl nw)), (q5to, .inl (cI, 12, .inl to)), (q5ne, .inl (cI, 8, .inl ne)), (q5st, .inl (cI, 16, .inl st)), (q5pd, .inl (cI, 60, .inl pd)), (q5cn, .inl (cI, 3, .inl cn)), (q5ig, .inl (cI, 120, .inl ig)), (q5ik, .inl (cZ, 2, .inl ik))] sz)) (kQi (dC, dI) [(q5, .inr (5, [.ref q5bk, .ref q5nw, .ref q5to, .int th, .ref q5ne, .int si, .ref q5st, .int sn, .ref q5pd, .int re, .int ac, .int fa, .int fw, .ref q5cn, .ref q5ig, .ref q5ik])), (q5bk, .inl (cI, 15, .inl bk)), (q5nw, .inl (cI, 15, .inl nw)), (q5to, .inl (cI, 12, .inl to)), (q5ne, .inl (cI, 8, .inl ne)), (q5st, .inl (cI, 16, .inl st)), (q5pd, .inl (cI, 60, .inl pd)), (q5cn, .inl (cI, 3, .inl cn)), (q5ig, .inl (cI, 120, .inl ig)), (q5ik, .inl (cZ, 2, .inl ik))] [(q5, .inr (5, [.ref q5bk, .ref q5nw, .ref q5to, .int th, .ref q5ne, .int si, .ref q5st, .int sn, .ref q5pd, .int re, .int ac, .int fa, .int fw, .ref q5cn, .ref q5ig, .ref q5ik])), (q5bk, .inl (cI, 15, .inl bk)), (q5nw, .inl (cI, 15, .inl nw)), (q5to, .inl (cI, 12, .inl to)), (q5ne, .inl (cI, 8, .inl ne)), (q5st, .inl (cI, 16, .inl st)), (q5pd, .inl (cI, 60, .inl pd)), (q5cn, .inl (cI, 3, .inl cn)), (q5ig, .inl (cI, 120, .inl ig)), (q5ik, .inl (cZ, 2, .inl ik))] sz r0) 0 0 (va_A [(q5, .inr (5, [.ref q5bk, .ref q5nw, .ref q5to, .int th, .ref q5ne, .int si, .ref q5st, .int sn, .ref q5pd, .int re, .int ac, .int fa, .int fw, .ref q5cn, .ref q5ig, .ref q5ik])), (q5bk, .inl (cI, 15, .inl bk)), (q5nw, .inl (cI, 15, .inl nw)), (q5to, .inl (cI, 12, .inl to)), (q5ne, .inl (cI, 8, .inl ne)), (q5st, .inl (cI, 16, .inl st)), (q5pd, .inl (cI, 60, .inl pd)), (q5cn, .inl (cI, 3, .inl cn)), (q5ig, .inl (cI, 120, .inl ig)), (q5ik, .inl (cZ, 2, .inl ik))] sz) := by
  refine kMi (own := RX5) (ty := .int) rfl (by decide) rfl ?_ (Nat.le_of_ble_eq_true rfl)
  intro p e s m args below meth c Q A CF hK hN hA hP hD hret ls hl
  have hS : va_S A s.heap s.heap [] := va_S.rf
  obtain ⟨hx, hb, hml, hown, hts⟩ := id CF
  have hl : lv_has ls 5 [(0, .ref q5)] := hl
  unfold m_X5_toneSet at hs
  refine lv_iconst (v := 0) hx hb dX5_toneSet_0 (by decide) ?_
  refine lv_istore_n (lv' := [(1, .int (0 : Int32)), (0, .ref q5)]) hx hb dX5_toneSet_1 rfl hl (by decide) rfl (fun ls hl => ?_)
  refine lv_iconst (v := 0) hx hb dX5_toneSet_2 (by decide) ?_
  refine lv_istore_n (lv' := [(2, .int (0 : Int32)), (1, .int (0 : Int32)), (0, .ref q5)]) hx hb dX5_toneSet_3 rfl hl (by decide) rfl (fun ls hl => ?_)
  have hL_4 : ∀ (n : Nat) (v1 : Int32) (v2 : Int32) (H : Heap) (locs : List Loc) (ls : Array Slot), va_P (dC, dI) vwCl [(q5, .inr (5, [.ref q5bk, .ref q5nw, .ref q5to, .int th, .ref q5ne, .int si, .ref q5st, .int sn, .ref q5pd, .int re, .int ac, .int fa, .int fw, .ref q5cn, .ref q5ig, .ref q5ik])), (q5bk, .inl (cI, 15, .inl bk)), (q5nw, .inl (cI, 15, .inl nw)), (q5to, .inl (cI, 12, .inl to)), (q5ne, .inl (cI, 8, .inl ne)), (q5st, .inl (cI, 16, .inl st)), (q5pd, .inl (cI, 60, .inl pd)), (q5cn, .inl (cI, 3, .inl cn)), (q5ig, .inl (cI, 120, .inl ig)), (q5ik, .inl (cZ, 2, .inl ik))] H → va_D A [(q5, .inr (5, [.ref q5bk, .ref q5nw, .ref q5to, .int th, .ref q5ne, .int si, .ref q5st, .int sn, .ref q5pd, .int re, .int ac, .int fa, .int fw, .ref q5cn, .ref q5ig, .ref q5ik])), (q5bk, .inl (cI, 15, .inl bk)), (q5nw, .inl (cI, 15, .inl nw)), (q5to, .inl (cI, 12, .inl to)), (q5ne, .inl (cI, 8, .inl ne)), (q5st, .inl (cI, 16, .inl st)), (q5pd, .inl (cI, 60, .inl pd)), (q5cn, .inl (cI, 3, .inl cn)), (q5ig, .inl (cI, 120, .inl ig)), (q5ik, .inl (cZ, 2, .inl ik))] → va_S A s.heap H locs → lv_has ls 5 [(0, .ref q5), (1, .int v1), (2, .int v2)] → L_X5_toneSet_4 si st n v1 v2 = some r0 → W p l e rm_X5_toneSet s m args below meth c H locs 0 0 Q (F0 m 4 ls []) := by
    intro n
    induction n with
    | zero =>
      intro v1 v2 H locs ls hP hD hS hl hs
      replace hs : (none : Option (Int32)) = some r0 := hs
      cases hs
    | succ n_4 ih_4 =>
      intro v1 v2 H locs ls hP hD hS hl hs
      replace hs : b_X5_toneSet_4  (L_X5_toneSet_4 si st n_4) si st v1 v2 = some r0 := hs
      unfold b_X5_toneSet_4 at hs
      refine lv_iload_n hx hb dX5_toneSet_4 rfl (lv_at hl 2 rfl) ?_
      refine lv_bipush (v := 10) hx hb dX5_toneSet_5 (by decide) ?_
      refine lv_icmp_ge (tgt := 87) hx hb dX5_toneSet_7 (by decide) (fun c_1 => ?_) (fun c_1 => ?_)
      · replace hs := if_p c_1 hs
        refine lv_iload_n hx hb dX5_toneSet_87 rfl (lv_at hl 1 rfl) ?_
        cases hs
        exact hret _ _ _ _ hP hD hS (vp_nar_int _) dX5_toneSet_88
      · replace hs := if_n c_1 hs
        refine lv_iconst (v := 1) hx hb dX5_toneSet_10 (by decide) ?_
        refine lv_istore_n (lv' := [(3, .int (1 : Int32)), (0, .ref q5), (1, .int v1), (2, .int v2)]) hx hb dX5_toneSet_11 rfl hl (by decide) rfl (fun ls hl => ?_)
        refine lv_iconst (v := 0) hx hb dX5_toneSet_12 (by decide) ?_
        refine lv_istore (lv' := [(4, .int (0 : Int32)), (3, .int (1 : Int32)), (0, .ref q5), (1, .int v1), (2, .int v2)]) hx hb dX5_toneSet_13 hl (by decide) rfl (fun ls hl => ?_)
        have hL_15 : ∀ (n : Nat) (v1 : Int32) (v2 : Int32) (v3 : Int32) (v4 : Int32) (H : Heap) (locs : List Loc) (ls : Array Slot), va_P (dC, dI) vwCl [(q5, .inr (5, [.ref q5bk, .ref q5nw, .ref q5to, .int th, .ref q5ne, .int si, .ref q5st, .int sn, .ref q5pd, .int re, .int ac, .int fa, .int fw, .ref q5cn, .ref q5ig, .ref q5ik])), (q5bk, .inl (cI, 15, .inl bk)), (q5nw, .inl (cI, 15, .inl nw)), (q5to, .inl (cI, 12, .inl to)), (q5ne, .inl (cI, 8, .inl ne)), (q5st, .inl (cI, 16, .inl st)), (q5pd, .inl (cI, 60, .inl pd)), (q5cn, .inl (cI, 3, .inl cn)), (q5ig, .inl (cI, 120, .inl ig)), (q5ik, .inl (cZ, 2, .inl ik))] H → va_D A [(q5, .inr (5, [.ref q5bk, .ref q5nw, .ref q5to, .int th, .ref q5ne, .int si, .ref q5st, .int sn, .ref q5pd, .int re, .int ac, .int fa, .int fw, .ref q5cn, .ref q5ig, .ref q5ik])), (q5bk, .inl (cI, 15, .inl bk)), (q5nw, .inl (cI, 15, .inl nw)), (q5to, .inl (cI, 12, .inl to)), (q5ne, .inl (cI, 8, .inl ne)), (q5st, .inl (cI, 16, .inl st)), (q5pd, .inl (cI, 60, .inl pd)), (q5cn, .inl (cI, 3, .inl cn)), (q5ig, .inl (cI, 120, .inl ig)), (q5ik, .inl (cZ, 2, .inl ik))] → va_S A s.heap H locs → lv_has ls 5 [(0, .ref q5), (1, .int v1), (2, .int v2), (3, .int v3), (4, .int v4)] → L_X5_toneSet_15 (L_X5_toneSet_4 si st n_4) v1 v2 si st n v3 v4 = some r0 → W p l e rm_X5_toneSet s m args below meth c H locs 0 0 Q (F0 m 15 ls []) := by
          intro n
          induction n with
          | zero =>
            intro v1 v2 v3 v4 H locs ls hP hD hS hl hs
            replace hs : (none : Option (Int32)) = some r0 := hs
            cases hs
          | succ n_15 ih_15 =>
            intro v1 v2 v3 v4 H locs ls hP hD hS hl hs
            replace hs : b_X5_toneSet_15 (L_X5_toneSet_4 si st n_4) (L_X5_toneSet_15 (L_X5_toneSet_4 si st n_4) v1 v2 si st n_15) v1 v2 si st v3 v4 = some r0 := hs
            unfold b_X5_toneSet_15 at hs
            refine lv_iload hx hb dX5_toneSet_15 (lv_at hl 4 rfl) ?_
            refine lv_aload_n hx hb dX5_toneSet_17 rfl (lv_at hl 0 rfl) ?_
            refine va_get (D := (dC, dI)) (ci := 5) (v := .int si) (C := RX5) (T := TX5) (N := 16) hx hb hts (fun w h => kg1 (iG_5 w h)) hown hK hP 0 rfl rfl 5 (by decide) (hts _ (kg1 mG_414)) (fun _ h9 => h9) rfl dX5_toneSet_18 ?_
            refine lv_icmp_ge (tgt := 67) hx hb dX5_toneSet_21 (by decide) (fun c_2 => ?_) (fun c_2 => ?_)
            · replace hs := if_p c_2 hs
              refine lv_iload_n hx hb dX5_toneSet_67 rfl (lv_at hl 1 rfl) ?_
              refine lv_iload_n hx hb dX5_toneSet_68 rfl (lv_at hl 3 rfl) ?_
              refine lv_if_eq (tgt := 78) hx hb dX5_toneSet_69 (by decide) (fun c_3 => ?_) (fun c_3 => ?_)
              · replace hs := if_p c_3 hs
                refine lv_iconst (v := 0) hx hb dX5_toneSet_78 (by decide) ?_
                refine lv_ior hx hb dX5_toneSet_79 ?_
                refine lv_istore_n (lv' := [(1, .int (v1 ||| (0 : Int32))), (0, .ref q5), (2, .int v2), (3, .int v3), (4, .int v4)]) hx hb dX5_toneSet_80 rfl hl (by decide) rfl (fun ls hl => ?_)
                refine lv_iinc (v := (v2 + 1)) (lv' := [(2, .int (v2 + 1)), (1, .int (v1 ||| (0 : Int32))), (0, .ref q5), (3, .int v3), (4, .int v4)]) hx hb dX5_toneSet_81 hl (k := 2) rfl rfl (by decide) rfl (fun ls hl => ?_)
                refine lv_goto (tgt := 4) hx hb dX5_toneSet_84 (by decide) ?_
                exact ih_4 (v1 ||| (0 : Int32)) (v2 + 1) _ _ _ hP hD hS (lv_sub hl [2, 1, 0] rfl) hs
              · replace hs := if_n c_3 hs
                refine lv_iconst (v := 1) hx hb dX5_toneSet_72 (by decide) ?_
                refine lv_iload_n hx hb dX5_toneSet_73 rfl (lv_at hl 2 rfl) ?_
                refine lv_ishl hx hb dX5_toneSet_74 ?_
                refine lv_goto (tgt := 79) hx hb dX5_toneSet_75 (by decide) ?_
                refine lv_ior hx hb dX5_toneSet_79 ?_
                refine lv_istore_n (lv' := [(1, .int (v1 ||| ((1 : Int32) <<< (v2 &&& 31)))), (0, .ref q5), (2, .int v2), (3, .int v3), (4, .int v4)]) hx hb dX5_toneSet_80 rfl hl (by decide) rfl (fun ls hl => ?_)
                refine lv_iinc (v := (v2 + 1)) (lv' := [(2, .int (v2 + 1)), (1, .int (v1 ||| ((1 : Int32) <<< (v2 &&& 31)))), (0, .ref q5), (3, .int v3), (4, .int v4)]) hx hb dX5_toneSet_81 hl (k := 2) rfl rfl (by decide) rfl (fun ls hl => ?_)
                refine lv_goto (tgt := 4) hx hb dX5_toneSet_84 (by decide) ?_
                exact ih_4 (v1 ||| ((1 : Int32) <<< (v2 &&& 31))) (v2 + 1) _ _ _ hP hD hS (lv_sub hl [2, 1, 0] rfl) hs
            · replace hs := if_n c_2 hs
              refine lv_iload_n hx hb dX5_toneSet_24 rfl (lv_at hl 3 rfl) ?_
              refine lv_if_eq (tgt := 59) hx hb dX5_toneSet_25 (by decide) (fun c_4 => ?_) (fun c_4 => ?_)
              · replace hs := if_p c_4 hs
                refine lv_iconst (v := 0) hx hb dX5_toneSet_59 (by decide) ?_
                refine lv_istore_n (lv' := [(3, .int (0 : Int32)), (0, .ref q5), (1, .int v1), (2, .int v2), (4, .int v4)]) hx hb dX5_toneSet_60 rfl hl (by decide) rfl (fun ls hl => ?_)
                refine lv_iinc (v := (v4 + 1)) (lv' := [(4, .int (v4 + 1)), (3, .int (0 : Int32)), (0, .ref q5), (1, .int v1), (2, .int v2)]) hx hb dX5_toneSet_61 hl (k := 4) rfl rfl (by decide) rfl (fun ls hl => ?_)
                refine lv_goto (tgt := 15) hx hb dX5_toneSet_64 (by decide) ?_
                exact ih_15 v1 v2 (0 : Int32) (v4 + 1) _ _ _ hP hD hS (lv_sub hl [2, 3, 4, 1, 0] rfl) hs
              · replace hs := if_n c_4 hs
                refine lv_aload_n hx hb dX5_toneSet_28 rfl (lv_at hl 0 rfl) ?_
                refine va_get (D := (dC, dI)) (ci := 5) (v := .ref q5st) (C := RX5) (T := TX5) (N := 16) hx hb hts (fun w h => kg1 (iG_5 w h)) hown hK hP 0 rfl rfl 6 (by decide) (hts _ (kg1 mG_320)) (fun _ h9 => h9) rfl dX5_toneSet_29 ?_
                refine lv_iconst (v := 2) hx hb dX5_toneSet_32 (by decide) ?_
                refine lv_iload hx hb dX5_toneSet_33 (lv_at hl 4 rfl) ?_
                refine lv_imul hx hb dX5_toneSet_35 ?_
                obtain ⟨hg_5, hs⟩ := gd_e hs
                refine kald hx hb hK hP 5 0 rfl rfl (j := (Int32.toNatClampNeg ((2 : Int32) * v4))) rfl (inb_e hg_5) dX5_toneSet_36 ?_
                refine lv_iload_n hx hb dX5_toneSet_37 rfl (lv_at hl 2 rfl) ?_
                refine kpi (va_runS (As := [.int (st (Int32.toNatClampNeg ((2 : Int32) * v4))), .int v2]) (rest := []) ⟨hx, hb, hml, hown, hts⟩ (k_X5_shakes l (st (Int32.toNatClampNeg ((2 : Int32) * v4))) v2 _ rfl) (va_cwS 2 hts (kGood (kgS mG_356 mG_357 mG_332 mG_354)) rfl rfl rfl hd_X5_shakes ⟨Nat.le_of_ble_eq_true rfl, Nat.le_of_ble_eq_true rfl⟩) preEq rfl rfl hl.1 rfl (lv_room (Nat.le_of_ble_eq_true rfl)) dX5_toneSet_38 ⟨Nat.zero_le _, Nat.zero_le _⟩) ?_
                refine lv_aload_n hx hb dX5_toneSet_41 rfl (lv_at hl 0 rfl) ?_
                refine va_get (D := (dC, dI)) (ci := 5) (v := .ref q5st) (C := RX5) (T := TX5) (N := 16) hx hb hts (fun w h => kg1 (iG_5 w h)) hown hK hP 0 rfl rfl 6 (by decide) (hts _ (kg1 mG_320)) (fun _ h9 => h9) rfl dX5_toneSet_42 ?_
                refine lv_iconst (v := 2) hx hb dX5_toneSet_45 (by decide) ?_
                refine lv_iload hx hb dX5_toneSet_46 (lv_at hl 4 rfl) ?_
                refine lv_imul hx hb dX5_toneSet_48 ?_
                refine lv_iconst (v := 1) hx hb dX5_toneSet_49 (by decide) ?_
                refine lv_iadd hx hb dX5_toneSet_50 ?_
                obtain ⟨hg_6, hs⟩ := gd_e hs
                refine kald hx hb hK hP 5 0 rfl rfl (j := (Int32.toNatClampNeg (((2 : Int32) * v4) + (1 : Int32)))) rfl (inb_e hg_6) dX5_toneSet_51 ?_
                refine lv_icmp_ne (tgt := 59) hx hb dX5_toneSet_52 (by decide) (fun c_7 => ?_) (fun c_7 => ?_)
                · replace hs := if_n c_7 hs
                  refine lv_iconst (v := 0) hx hb dX5_toneSet_59 (by decide) ?_
                  refine lv_istore_n (lv' := [(3, .int (0 : Int32)), (0, .ref q5), (1, .int v1), (2, .int v2), (4, .int v4)]) hx hb dX5_toneSet_60 rfl hl (by decide) rfl (fun ls hl => ?_)
                  refine lv_iinc (v := (v4 + 1)) (lv' := [(4, .int (v4 + 1)), (3, .int (0 : Int32)), (0, .ref q5), (1, .int v1), (2, .int v2)]) hx hb dX5_toneSet_61 hl (k := 4) rfl rfl (by decide) rfl (fun ls hl => ?_)
                  refine lv_goto (tgt := 15) hx hb dX5_toneSet_64 (by decide) ?_
                  exact ih_15 v1 v2 (0 : Int32) (v4 + 1) _ _ _ hP hD hS (lv_sub hl [2, 3, 4, 1, 0] rfl) hs
                · replace hs := if_p c_7 hs
                  refine lv_iconst (v := 1) hx hb dX5_toneSet_55 (by decide) ?_
                  refine lv_goto (tgt := 60) hx hb dX5_toneSet_56 (by decide) ?_
                  refine lv_istore_n (lv' := [(3, .int (1 : Int32)), (0, .ref q5), (1, .int v1), (2, .int v2), (4, .int v4)]) hx hb dX5_toneSet_60 rfl hl (by decide) rfl (fun ls hl => ?_)
                  refine lv_iinc (v := (v4 + 1)) (lv' := [(4, .int (v4 + 1)), (3, .int (1 : Int32)), (0, .ref q5), (1, .int v1), (2, .int v2)]) hx hb dX5_toneSet_61 hl (k := 4) rfl rfl (by decide) rfl (fun ls hl => ?_)
                  refine lv_goto (tgt := 15) hx hb dX5_toneSet_64 (by decide) ?_
                  exact ih_15 v1 v2 (1 : Int32) (v4 + 1) _ _ _ hP hD hS (lv_sub hl [2, 3, 4, 1, 0] rfl) hs
        exact hL_15 fu v1 v2 (1 : Int32) (0 : Int32) _ _ _ hP hD hS (lv_sub hl [2, 3, 4, 1, 0] rfl) hs
  exact hL_4 fu (0 : Int32) (0 : Int32) _ _ _ hP hD hS (lv_sub hl [2, 1, 0] rfl) hs
abbrev rm_X5_tones : Room := { frames := 2, cells := 0, slots := 0, locals := 46 }
theorem hd_X5_tones : yX5_tones.cls ≠ "java/lang/invoke/MethodHandle" ∧ yX5_tones.cls ≠ "java/lang/invoke/VarHandle" ∧ (parseMethodDescriptor yX5_tones.desc).map (fun d => d.parameters.length) = some 0 := by decide +kernel
set_option maxHeartbeats 4000000 in
set_option maxRecDepth 100000 in
theorem k_X5_tones (l : Launch) (dC : Nat → ClassId) (dI : Nat → Nat → Nat) (cI cZ cS : ClassId) (q5 q5bk q5nw q5to q5ne q5st q5pd q5cn q5ig q5ik : Nat) (sz : Nat) (th : Int32) (si : Int32) (sn : Int32) (re : Int32) (ac : Int32) (fa : Int32) (fw : Int32) (bk : Ar) (nw : Ar) (to : Ar) (ne : Ar) (st : Ar) (pd : Ar) (cn : Ar) (ig : Ar) (ik : Ar)  (r0 : Int32) (hs : m_X5_tones si st = some r0) : Met l yX5_tones (.code yX5_tones cX5_tones 1 (some .int) :: kG) rm_X5_tones (va_Pc [.ref q5] (kW (dC, dI) cI cZ cS [(q5, .inr (5, [.ref q5bk, .ref q5nw, .ref q5to, .int th, .ref q5ne, .int si, .ref q5st, .int sn, .ref q5pd, .int re, .int ac, .int fa, .int fw, .ref q5cn, .ref q5ig, .ref q5ik])), (q5bk, .inl (cI, 15, .inl bk)), (q5nw, .inl (cI, 15, .inl nw)), (q5to, .inl (cI, 12, .inl to)), (q5ne, .inl (cI, 8, .inl ne)), (q5st, .inl (cI, 16, .inl st)), (q5pd, .inl (cI, 60, .inl pd)), (q5cn, .inl (cI, 3, .inl cn)), (q5ig, .inl (cI, 120, .inl ig)), (q5ik, .inl (cZ, 2, .inl ik))] sz)) (kQi (dC, dI) [(q5, .inr (5, [.ref q5bk, .ref q5nw, .ref q5to, .int th, .ref q5ne, .int si, .ref q5st, .int sn, .ref q5pd, .int re, .int ac, .int fa, .int fw, .ref q5cn, .ref q5ig, .ref q5ik])), (q5bk, .inl (cI, 15, .inl bk)), (q5nw, .inl (cI, 15, .inl nw)), (q5to, .inl (cI, 12, .inl to)), (q5ne, .inl (cI, 8, .inl ne)), (q5st, .inl (cI, 16, .inl st)), (q5pd, .inl (cI, 60, .inl pd)), (q5cn, .inl (cI, 3, .inl cn)), (q5ig, .inl (cI, 120, .inl ig)), (q5ik, .inl (cZ, 2, .inl ik))] [(q5, .inr (5, [.ref q5bk, .ref q5nw, .ref q5to, .int th, .ref q5ne, .int si, .ref q5st, .int sn, .ref q5pd, .int re, .int ac, .int fa, .int fw, .ref q5cn, .ref q5ig, .ref q5ik])), (q5bk, .inl (cI, 15, .inl bk)), (q5nw, .inl (cI, 15, .inl nw)), (q5to, .inl (cI, 12, .inl to)), (q5ne, .inl (cI, 8, .inl ne)), (q5st, .inl (cI, 16, .inl st)), (q5pd, .inl (cI, 60, .inl pd)), (q5cn, .inl (cI, 3, .inl cn)), (q5ig, .inl (cI, 120, .inl ig)), (q5ik, .inl (cZ, 2, .inl ik))] sz r0) 0 0 (va_A [(q5, .inr (5, [.ref q5bk, .ref q5nw, .ref q5to, .int th, .ref q5ne, .int si, .ref q5st, .int sn, .ref q5pd, .int re, .int ac, .int fa, .int fw, .ref q5cn, .ref q5ig, .ref q5ik])), (q5bk, .inl (cI, 15, .inl bk)), (q5nw, .inl (cI, 15, .inl nw)), (q5to, .inl (cI, 12, .inl to)), (q5ne, .inl (cI, 8, .inl ne)), (q5st, .inl (cI, 16, .inl st)), (q5pd, .inl (cI, 60, .inl pd)), (q5cn, .inl (cI, 3, .inl cn)), (q5ig, .inl (cI, 120, .inl ig)), (q5ik, .inl (cZ, 2, .inl ik))] sz) := by
  refine kMi (own := RX5) (ty := .int) rfl (by decide) rfl ?_ (Nat.le_of_ble_eq_true rfl)
  intro p e s m args below meth c Q A CF hK hN hA hP hD hret ls hl
  have hS : va_S A s.heap s.heap [] := va_S.rf
  obtain ⟨hx, hb, hml, hown, hts⟩ := id CF
  have hl : lv_has ls 1 [(0, .ref q5)] := hl
  unfold m_X5_tones at hs
  refine lv_aload_n hx hb dX5_tones_0 rfl (lv_at hl 0 rfl) ?_
  obtain ⟨r_1, hc_2, hs⟩ := ob1_e hs
  refine kci (wr := []) (ws' := [(q5, .inr (5, [.ref q5bk, .ref q5nw, .ref q5to, .int th, .ref q5ne, .int si, .ref q5st, .int sn, .ref q5pd, .int re, .int ac, .int fa, .int fw, .ref q5cn, .ref q5ig, .ref q5ik])), (q5bk, .inl (cI, 15, .inl bk)), (q5nw, .inl (cI, 15, .inl nw)), (q5to, .inl (cI, 12, .inl to)), (q5ne, .inl (cI, 8, .inl ne)), (q5st, .inl (cI, 16, .inl st)), (q5pd, .inl (cI, 60, .inl pd)), (q5cn, .inl (cI, 3, .inl cn)), (q5ig, .inl (cI, 120, .inl ig)), (q5ik, .inl (cZ, 2, .inl ik))]) (va_runV (As := []) (rest := []) ⟨hx, hb, hml, hown, hts⟩ (k_X5_toneSet l dC dI cI cZ cS q5 q5bk q5nw q5to q5ne q5st q5pd q5cn q5ig q5ik s.heap.size th si sn re ac fa fw bk nw to ne st pd cn ig ik r_1 hc_2) (cwV 0 hts (kGood (kgV mG_418 mG_419 mG_420 mG_332 mG_416)) rfl rfl rfl ⟨rfl, hd_X5_toneSet⟩ ⟨Nat.le_of_ble_eq_true rfl, Nat.le_of_ble_eq_true rfl⟩) (kpV hK hN (hP.sub (ws' := [(q5, .inr (5, [.ref q5bk, .ref q5nw, .ref q5to, .int th, .ref q5ne, .int si, .ref q5st, .int sn, .ref q5pd, .int re, .int ac, .int fa, .int fw, .ref q5cn, .ref q5ig, .ref q5ik])), (q5bk, .inl (cI, 15, .inl bk)), (q5nw, .inl (cI, 15, .inl nw)), (q5to, .inl (cI, 12, .inl to)), (q5ne, .inl (cI, 8, .inl ne)), (q5st, .inl (cI, 16, .inl st)), (q5pd, .inl (cI, 60, .inl pd)), (q5cn, .inl (cI, 3, .inl cn)), (q5ig, .inl (cI, 120, .inl ig)), (q5ik, .inl (cZ, 2, .inl ik))]) [0, 1, 2, 3, 4, 5, 6, 7, 8, 9] rfl) (hD.sub (ws' := [(q5, .inr (5, [.ref q5bk, .ref q5nw, .ref q5to, .int th, .ref q5ne, .int si, .ref q5st, .int sn, .ref q5pd, .int re, .int ac, .int fa, .int fw, .ref q5cn, .ref q5ig, .ref q5ik])), (q5bk, .inl (cI, 15, .inl bk)), (q5nw, .inl (cI, 15, .inl nw)), (q5to, .inl (cI, 12, .inl to)), (q5ne, .inl (cI, 8, .inl ne)), (q5st, .inl (cI, 16, .inl st)), (q5pd, .inl (cI, 60, .inl pd)), (q5cn, .inl (cI, 3, .inl cn)), (q5ig, .inl (cI, 120, .inl ig)), (q5ik, .inl (cZ, 2, .inl ik))]) [0, 1, 2, 3, 4, 5, 6, 7, 8, 9] rfl rfl) rfl rfl rfl) rfl rfl hl.1 rfl (lv_room (Nat.le_of_ble_eq_true rfl)) dX5_tones_1 ⟨Nat.zero_le _, Nat.zero_le _⟩) hP hD hS hA [0, 1, 2, 3, 4, 5, 6, 7, 8, 9] [] [0, 1, 2, 3, 4, 5, 6, 7, 8, 9] rfl rfl rfl (by decide) rfl rfl (fun H locs hP hD hS => ?_)
  cases hs
  exact hret _ _ _ _ hP hD hS (vp_nar_int _) dX5_tones_4
abbrev rm_X5_next : Room := { frames := 2, cells := 0, slots := 0, locals := 46 }
theorem hd_X5_next : yX5_next.cls ≠ "java/lang/invoke/MethodHandle" ∧ yX5_next.cls ≠ "java/lang/invoke/VarHandle" ∧ (parseMethodDescriptor yX5_next.desc).map (fun d => d.parameters.length) = some 1 := by decide +kernel
set_option maxHeartbeats 4000000 in
set_option maxRecDepth 100000 in
theorem k_X5_next (l : Launch) (dC : Nat → ClassId) (dI : Nat → Nat → Nat) (cI cZ cS : ClassId) (q5 q5bk q5nw q5to q5ne q5st q5pd q5cn q5ig q5ik : Nat) (sz : Nat) (th : Int32) (si : Int32) (sn : Int32) (re : Int32) (ac : Int32) (fa : Int32) (fw : Int32) (bk : Ar) (nw : Ar) (to : Ar) (ne : Ar) (st : Ar) (pd : Ar) (cn : Ar) (ig : Ar) (ik : Ar) (v1 : Int32) (r0 : Int32) (cn_o : Ar) (hs : m_X5_next v1 si st cn = some (r0, cn_o)) : Met l yX5_next (.code yX5_next cX5_next 8 (some .int) :: kG) rm_X5_next (va_Pc [.ref q5, .int v1] (kW (dC, dI) cI cZ cS [(q5, .inr (5, [.ref q5bk, .ref q5nw, .ref q5to, .int th, .ref q5ne, .int si, .ref q5st, .int sn, .ref q5pd, .int re, .int ac, .int fa, .int fw, .ref q5cn, .ref q5ig, .ref q5ik])), (q5bk, .inl (cI, 15, .inl bk)), (q5nw, .inl (cI, 15, .inl nw)), (q5to, .inl (cI, 12, .inl to)), (q5ne, .inl (cI, 8, .inl ne)), (q5st, .inl (cI, 16, .inl st)), (q5pd, .inl (cI, 60, .inl pd)), (q5cn, .inl (cI, 3, .inl cn)), (q5ig, .inl (cI, 120, .inl ig)), (q5ik, .inl (cZ, 2, .inl ik))] sz)) (kQi (dC, dI) [(q5, .inr (5, [.ref q5bk, .ref q5nw, .ref q5to, .int th, .ref q5ne, .int si, .ref q5st, .int sn, .ref q5pd, .int re, .int ac, .int fa, .int fw, .ref q5cn, .ref q5ig, .ref q5ik])), (q5bk, .inl (cI, 15, .inl bk)), (q5nw, .inl (cI, 15, .inl nw)), (q5to, .inl (cI, 12, .inl to)), (q5ne, .inl (cI, 8, .inl ne)), (q5st, .inl (cI, 16, .inl st)), (q5pd, .inl (cI, 60, .inl pd)), (q5cn, .inl (cI, 3, .inl cn)), (q5ig, .inl (cI, 120, .inl ig)), (q5ik, .inl (cZ, 2, .inl ik))] [(q5, .inr (5, [.ref q5bk, .ref q5nw, .ref q5to, .int th, .ref q5ne, .int si, .ref q5st, .int sn, .ref q5pd, .int re, .int ac, .int fa, .int fw, .ref q5cn, .ref q5ig, .ref q5ik])), (q5bk, .inl (cI, 15, .inl bk)), (q5nw, .inl (cI, 15, .inl nw)), (q5to, .inl (cI, 12, .inl to)), (q5ne, .inl (cI, 8, .inl ne)), (q5st, .inl (cI, 16, .inl st)), (q5pd, .inl (cI, 60, .inl pd)), (q5cn, .inl (cI, 3, .inl cn_o)), (q5ig, .inl (cI, 120, .inl ig)), (q5ik, .inl (cZ, 2, .inl ik))] sz r0) 0 0 (va_A [(q5, .inr (5, [.ref q5bk, .ref q5nw, .ref q5to, .int th, .ref q5ne, .int si, .ref q5st, .int sn, .ref q5pd, .int re, .int ac, .int fa, .int fw, .ref q5cn, .ref q5ig, .ref q5ik])), (q5bk, .inl (cI, 15, .inl bk)), (q5nw, .inl (cI, 15, .inl nw)), (q5to, .inl (cI, 12, .inl to)), (q5ne, .inl (cI, 8, .inl ne)), (q5st, .inl (cI, 16, .inl st)), (q5pd, .inl (cI, 60, .inl pd)), (q5cn, .inl (cI, 3, .inl cn)), (q5ig, .inl (cI, 120, .inl ig)), (q5ik, .inl (cZ, 2, .inl ik))] sz) := by
  refine kMi (own := RX5) (ty := .int) rfl (by decide) rfl ?_ (Nat.le_of_ble_eq_true rfl)
  intro p e s m args below meth c Q A CF hK hN hA hP hD hret ls hl
  have hS : va_S A s.heap s.heap [] := va_S.rf
  obtain ⟨hx, hb, hml, hown, hts⟩ := id CF
  have hl : lv_has ls 8 [(0, .ref q5), (1, .int v1)] := hl
  unfold m_X5_next at hs
  refine lv_iload_n hx hb dX5_next_0 rfl (lv_at hl 1 rfl) ?_
  refine lv_iconst (v := 0) hx hb dX5_next_1 (by decide) ?_
  refine lv_iconst (v := 1) hx hb dX5_next_2 (by decide) ?_
  refine kpi (va_runS (As := [.int v1, .int (0 : Int32), .int (1 : Int32)]) (rest := []) ⟨hx, hb, hml, hown, hts⟩ (k_X5_in l v1 (0 : Int32) (1 : Int32) _ rfl) (va_cwS 3 hts (kGood (kgS mG_330 mG_331 mG_332 mG_326)) rfl rfl rfl hd_X5_in ⟨Nat.le_of_ble_eq_true rfl, Nat.le_of_ble_eq_true rfl⟩) preEq rfl rfl hl.1 rfl (lv_room (Nat.le_of_ble_eq_true rfl)) dX5_next_3 ⟨Nat.zero_le _, Nat.zero_le _⟩) ?_
  refine lv_if_ne (tgt := 12) hx hb dX5_next_6 (by decide) (fun c_1 => ?_) (fun c_1 => ?_)
  · replace hs := if_n c_1 hs
    refine lv_aload_n hx hb dX5_next_12 rfl (lv_at hl 0 rfl) ?_
    obtain ⟨r_2, hc_3, hs⟩ := ob1_e hs
    refine kci (wr := []) (ws' := [(q5, .inr (5, [.ref q5bk, .ref q5nw, .ref q5to, .int th, .ref q5ne, .int si, .ref q5st, .int sn, .ref q5pd, .int re, .int ac, .int fa, .int fw, .ref q5cn, .ref q5ig, .ref q5ik])), (q5bk, .inl (cI, 15, .inl bk)), (q5nw, .inl (cI, 15, .inl nw)), (q5to, .inl (cI, 12, .inl to)), (q5ne, .inl (cI, 8, .inl ne)), (q5st, .inl (cI, 16, .inl st)), (q5pd, .inl (cI, 60, .inl pd)), (q5cn, .inl (cI, 3, .inl cn)), (q5ig, .inl (cI, 120, .inl ig)), (q5ik, .inl (cZ, 2, .inl ik))]) (va_runV (As := []) (rest := []) ⟨hx, hb, hml, hown, hts⟩ (k_X5_toneSet l dC dI cI cZ cS q5 q5bk q5nw q5to q5ne q5st q5pd q5cn q5ig q5ik s.heap.size th si sn re ac fa fw bk nw to ne st pd cn ig ik r_2 hc_3) (cwV 0 hts (kGood (kgV mG_418 mG_419 mG_420 mG_332 mG_416)) rfl rfl rfl ⟨rfl, hd_X5_toneSet⟩ ⟨Nat.le_of_ble_eq_true rfl, Nat.le_of_ble_eq_true rfl⟩) (kpV hK hN (hP.sub (ws' := [(q5, .inr (5, [.ref q5bk, .ref q5nw, .ref q5to, .int th, .ref q5ne, .int si, .ref q5st, .int sn, .ref q5pd, .int re, .int ac, .int fa, .int fw, .ref q5cn, .ref q5ig, .ref q5ik])), (q5bk, .inl (cI, 15, .inl bk)), (q5nw, .inl (cI, 15, .inl nw)), (q5to, .inl (cI, 12, .inl to)), (q5ne, .inl (cI, 8, .inl ne)), (q5st, .inl (cI, 16, .inl st)), (q5pd, .inl (cI, 60, .inl pd)), (q5cn, .inl (cI, 3, .inl cn)), (q5ig, .inl (cI, 120, .inl ig)), (q5ik, .inl (cZ, 2, .inl ik))]) [0, 1, 2, 3, 4, 5, 6, 7, 8, 9] rfl) (hD.sub (ws' := [(q5, .inr (5, [.ref q5bk, .ref q5nw, .ref q5to, .int th, .ref q5ne, .int si, .ref q5st, .int sn, .ref q5pd, .int re, .int ac, .int fa, .int fw, .ref q5cn, .ref q5ig, .ref q5ik])), (q5bk, .inl (cI, 15, .inl bk)), (q5nw, .inl (cI, 15, .inl nw)), (q5to, .inl (cI, 12, .inl to)), (q5ne, .inl (cI, 8, .inl ne)), (q5st, .inl (cI, 16, .inl st)), (q5pd, .inl (cI, 60, .inl pd)), (q5cn, .inl (cI, 3, .inl cn)), (q5ig, .inl (cI, 120, .inl ig)), (q5ik, .inl (cZ, 2, .inl ik))]) [0, 1, 2, 3, 4, 5, 6, 7, 8, 9] rfl rfl) rfl rfl rfl) rfl rfl hl.1 rfl (lv_room (Nat.le_of_ble_eq_true rfl)) dX5_next_13 ⟨Nat.zero_le _, Nat.zero_le _⟩) hP hD hS hA [0, 1, 2, 3, 4, 5, 6, 7, 8, 9] [] [0, 1, 2, 3, 4, 5, 6, 7, 8, 9] rfl rfl rfl (by decide) rfl rfl (fun H locs hP hD hS => ?_)
    refine lv_istore_n (lv' := [(2, .int r_2), (0, .ref q5), (1, .int v1)]) hx hb dX5_next_16 rfl hl (by decide) rfl (fun ls hl => ?_)
    refine lv_bipush (v := -6) hx hb dX5_next_17 (by decide) ?_
    refine lv_istore_n (lv' := [(3, .int (-6 : Int32)), (2, .int r_2), (0, .ref q5), (1, .int v1)]) hx hb dX5_next_19 rfl hl (by decide) rfl (fun ls hl => ?_)
    refine lv_ldc (v := 1000000) hx hb hown (hts _ (kg1 mG_411)) dX5_next_20 ?_
    refine lv_istore (lv' := [(4, .int (1000000 : Int32)), (3, .int (-6 : Int32)), (2, .int r_2), (0, .ref q5), (1, .int v1)]) hx hb dX5_next_22 hl (by decide) rfl (fun ls hl => ?_)
    refine lv_iconst (v := 0) hx hb dX5_next_24 (by decide) ?_
    refine lv_istore (lv' := [(5, .int (0 : Int32)), (4, .int (1000000 : Int32)), (3, .int (-6 : Int32)), (2, .int r_2), (0, .ref q5), (1, .int v1)]) hx hb dX5_next_25 hl (by decide) rfl (fun ls hl => ?_)
    have hL_27 : ∀ (n : Nat) (v2 : Int32) (v3 : Int32) (v4 : Int32) (v5 : Int32) (cn : Ar) (H : Heap) (locs : List Loc) (ls : Array Slot), va_P (dC, dI) vwCl [(q5, .inr (5, [.ref q5bk, .ref q5nw, .ref q5to, .int th, .ref q5ne, .int si, .ref q5st, .int sn, .ref q5pd, .int re, .int ac, .int fa, .int fw, .ref q5cn, .ref q5ig, .ref q5ik])), (q5bk, .inl (cI, 15, .inl bk)), (q5nw, .inl (cI, 15, .inl nw)), (q5to, .inl (cI, 12, .inl to)), (q5ne, .inl (cI, 8, .inl ne)), (q5st, .inl (cI, 16, .inl st)), (q5pd, .inl (cI, 60, .inl pd)), (q5cn, .inl (cI, 3, .inl cn)), (q5ig, .inl (cI, 120, .inl ig)), (q5ik, .inl (cZ, 2, .inl ik))] H → va_D A [(q5, .inr (5, [.ref q5bk, .ref q5nw, .ref q5to, .int th, .ref q5ne, .int si, .ref q5st, .int sn, .ref q5pd, .int re, .int ac, .int fa, .int fw, .ref q5cn, .ref q5ig, .ref q5ik])), (q5bk, .inl (cI, 15, .inl bk)), (q5nw, .inl (cI, 15, .inl nw)), (q5to, .inl (cI, 12, .inl to)), (q5ne, .inl (cI, 8, .inl ne)), (q5st, .inl (cI, 16, .inl st)), (q5pd, .inl (cI, 60, .inl pd)), (q5cn, .inl (cI, 3, .inl cn)), (q5ig, .inl (cI, 120, .inl ig)), (q5ik, .inl (cZ, 2, .inl ik))] → va_S A s.heap H locs → lv_has ls 8 [(0, .ref q5), (1, .int v1), (2, .int v2), (3, .int v3), (4, .int v4), (5, .int v5)] → L_X5_next_27 v1 v2 n v3 v4 v5 cn = some (r0, cn_o) → W p l e rm_X5_next s m args below meth c H locs 0 0 Q (F0 m 27 ls []) := by
      intro n
      induction n with
      | zero =>
        intro v2 v3 v4 v5 cn H locs ls hP hD hS hl hs
        replace hs : (none : Option (Int32 × Ar)) = some (r0, cn_o) := hs
        cases hs
      | succ n_27 ih_27 =>
        intro v2 v3 v4 v5 cn H locs ls hP hD hS hl hs
        replace hs : b_X5_next_27  (L_X5_next_27 v1 v2 n_27) v1 v2 v3 v4 v5 cn = some (r0, cn_o) := hs
        unfold b_X5_next_27 at hs
        refine lv_iload hx hb dX5_next_27 (lv_at hl 5 rfl) ?_
        refine lv_bipush (v := 10) hx hb dX5_next_29 (by decide) ?_
        have hJ_182 : ∀ (v3 : Int32) (v4 : Int32) (cn : Ar) (H : Heap) (locs : List Loc) (ls : Array Slot), va_P (dC, dI) vwCl [(q5, .inr (5, [.ref q5bk, .ref q5nw, .ref q5to, .int th, .ref q5ne, .int si, .ref q5st, .int sn, .ref q5pd, .int re, .int ac, .int fa, .int fw, .ref q5cn, .ref q5ig, .ref q5ik])), (q5bk, .inl (cI, 15, .inl bk)), (q5nw, .inl (cI, 15, .inl nw)), (q5to, .inl (cI, 12, .inl to)), (q5ne, .inl (cI, 8, .inl ne)), (q5st, .inl (cI, 16, .inl st)), (q5pd, .inl (cI, 60, .inl pd)), (q5cn, .inl (cI, 3, .inl cn)), (q5ig, .inl (cI, 120, .inl ig)), (q5ik, .inl (cZ, 2, .inl ik))] H → va_D A [(q5, .inr (5, [.ref q5bk, .ref q5nw, .ref q5to, .int th, .ref q5ne, .int si, .ref q5st, .int sn, .ref q5pd, .int re, .int ac, .int fa, .int fw, .ref q5cn, .ref q5ig, .ref q5ik])), (q5bk, .inl (cI, 15, .inl bk)), (q5nw, .inl (cI, 15, .inl nw)), (q5to, .inl (cI, 12, .inl to)), (q5ne, .inl (cI, 8, .inl ne)), (q5st, .inl (cI, 16, .inl st)), (q5pd, .inl (cI, 60, .inl pd)), (q5cn, .inl (cI, 3, .inl cn)), (q5ig, .inl (cI, 120, .inl ig)), (q5ik, .inl (cZ, 2, .inl ik))] → va_S A s.heap H locs → lv_has ls 8 [(0, .ref q5), (1, .int v1), (3, .int v3), (4, .int v4)] → j_X5_next_182 v1 v3 v4 cn = some (r0, cn_o) → W p l e rm_X5_next s m args below meth c H locs 0 0 Q (F0 m 182 ls []) := by
          intro v3 v4 cn H locs ls hP hD hS hl hs
          unfold j_X5_next_182 at hs
          refine lv_iload_n hx hb dX5_next_182 rfl (lv_at hl 2 rfl) ?_
          refine lv_if_lt (tgt := 190) hx hb dX5_next_183 (by decide) (fun c_6 => ?_) (fun c_6 => ?_)
          · replace hs := if_p c_6 hs
            refine lv_iload_n hx hb dX5_next_190 rfl (lv_at hl 2 rfl) ?_
            refine lv_goto (tgt := 196) hx hb dX5_next_191 (by decide) ?_
            cases hs
            exact hret _ _ _ _ hP hD hS (vp_nar_int _) dX5_next_196
          · replace hs := if_n c_6 hs
            refine lv_iload_n hx hb dX5_next_186 rfl (lv_at hl 1 rfl) ?_
            refine lv_if_ne (tgt := 194) hx hb dX5_next_187 (by decide) (fun c_7 => ?_) (fun c_7 => ?_)
            · replace hs := if_n c_7 hs
              refine lv_iload hx hb dX5_next_194 (lv_at hl 3 rfl) ?_
              cases hs
              exact hret _ _ _ _ hP hD hS (vp_nar_int _) dX5_next_196
            · replace hs := if_p c_7 hs
              refine lv_iload_n hx hb dX5_next_190 rfl (lv_at hl 2 rfl) ?_
              refine lv_goto (tgt := 196) hx hb dX5_next_191 (by decide) ?_
              cases hs
              exact hret _ _ _ _ hP hD hS (vp_nar_int _) dX5_next_196
        refine lv_icmp_ge (tgt := 182) hx hb dX5_next_31 (by decide) (fun c_4 => ?_) (fun c_4 => ?_)
        · replace hs := if_p c_4 hs
          exact hJ_182 v3 v4 cn _ _ _ hP hD hS (lv_sub hl [0, 1, 3, 4] rfl) hs
        · replace hs := if_n c_4 hs
          refine lv_iload_n hx hb dX5_next_34 rfl (lv_at hl 2 rfl) ?_
          refine lv_if_eq (tgt := 182) hx hb dX5_next_35 (by decide) (fun c_5 => ?_) (fun c_5 => ?_)
          · replace hs := if_p c_5 hs
            exact hJ_182 v3 v4 cn _ _ _ hP hD hS (lv_sub hl [0, 1, 3, 4] rfl) hs
          · replace hs := if_n c_5 hs
            refine lv_iconst (v := 0) hx hb dX5_next_38 (by decide) ?_
            refine lv_istore (lv' := [(6, .int (0 : Int32)), (0, .ref q5), (1, .int v1), (2, .int v2), (3, .int v3), (4, .int v4), (5, .int v5)]) hx hb dX5_next_39 hl (by decide) rfl (fun ls hl => ?_)
            refine lv_iconst (v := 0) hx hb dX5_next_41 (by decide) ?_
            refine lv_istore (lv' := [(7, .int (0 : Int32)), (6, .int (0 : Int32)), (0, .ref q5), (1, .int v1), (2, .int v2), (3, .int v3), (4, .int v4), (5, .int v5)]) hx hb dX5_next_42 hl (by decide) rfl (fun ls hl => ?_)
            have hL_44 : ∀ (n : Nat) (v3 : Int32) (v4 : Int32) (v5 : Int32) (v6 : Int32) (v7 : Int32) (cn : Ar) (H : Heap) (locs : List Loc) (ls : Array Slot), va_P (dC, dI) vwCl [(q5, .inr (5, [.ref q5bk, .ref q5nw, .ref q5to, .int th, .ref q5ne, .int si, .ref q5st, .int sn, .ref q5pd, .int re, .int ac, .int fa, .int fw, .ref q5cn, .ref q5ig, .ref q5ik])), (q5bk, .inl (cI, 15, .inl bk)), (q5nw, .inl (cI, 15, .inl nw)), (q5to, .inl (cI, 12, .inl to)), (q5ne, .inl (cI, 8, .inl ne)), (q5st, .inl (cI, 16, .inl st)), (q5pd, .inl (cI, 60, .inl pd)), (q5cn, .inl (cI, 3, .inl cn)), (q5ig, .inl (cI, 120, .inl ig)), (q5ik, .inl (cZ, 2, .inl ik))] H → va_D A [(q5, .inr (5, [.ref q5bk, .ref q5nw, .ref q5to, .int th, .ref q5ne, .int si, .ref q5st, .int sn, .ref q5pd, .int re, .int ac, .int fa, .int fw, .ref q5cn, .ref q5ig, .ref q5ik])), (q5bk, .inl (cI, 15, .inl bk)), (q5nw, .inl (cI, 15, .inl nw)), (q5to, .inl (cI, 12, .inl to)), (q5ne, .inl (cI, 8, .inl ne)), (q5st, .inl (cI, 16, .inl st)), (q5pd, .inl (cI, 60, .inl pd)), (q5cn, .inl (cI, 3, .inl cn)), (q5ig, .inl (cI, 120, .inl ig)), (q5ik, .inl (cZ, 2, .inl ik))] → va_S A s.heap H locs → lv_has ls 8 [(0, .ref q5), (1, .int v1), (2, .int v2), (3, .int v3), (4, .int v4), (5, .int v5), (6, .int v6), (7, .int v7)] → L_X5_next_44 (L_X5_next_27 v1 v2 n_27) v2 v3 v4 v5 v6 n v7 cn = some (r0, cn_o) → W p l e rm_X5_next s m args below meth c H locs 0 0 Q (F0 m 44 ls []) := by
              intro n
              induction n with
              | zero =>
                intro v3 v4 v5 v6 v7 cn H locs ls hP hD hS hl hs
                replace hs : (none : Option (Int32 × Ar)) = some (r0, cn_o) := hs
                cases hs
              | succ n_44 ih_44 =>
                intro v3 v4 v5 v6 v7 cn H locs ls hP hD hS hl hs
                replace hs : b_X5_next_44 (L_X5_next_27 v1 v2 n_27) (L_X5_next_44 (L_X5_next_27 v1 v2 n_27) v2 v3 v4 v5 v6 n_44) v2 v3 v4 v5 v6 v7 cn = some (r0, cn_o) := hs
                unfold b_X5_next_44 at hs
                refine lv_iload hx hb dX5_next_44 (lv_at hl 7 rfl) ?_
                refine lv_iconst (v := 3) hx hb dX5_next_46 (by decide) ?_
                refine lv_icmp_ge (tgt := 64) hx hb dX5_next_47 (by decide) (fun c_8 => ?_) (fun c_8 => ?_)
                · replace hs := if_p c_8 hs
                  refine lv_iconst (v := 0) hx hb dX5_next_64 (by decide) ?_
                  refine lv_istore (lv' := [(7, .int (0 : Int32)), (0, .ref q5), (1, .int v1), (2, .int v2), (3, .int v3), (4, .int v4), (5, .int v5), (6, .int v6)]) hx hb dX5_next_65 hl (by decide) rfl (fun ls hl => ?_)
                  have hL_67 : ∀ (n : Nat) (v3 : Int32) (v4 : Int32) (v5 : Int32) (v6 : Int32) (v7 : Int32) (cn : Ar) (H : Heap) (locs : List Loc) (ls : Array Slot), va_P (dC, dI) vwCl [(q5, .inr (5, [.ref q5bk, .ref q5nw, .ref q5to, .int th, .ref q5ne, .int si, .ref q5st, .int sn, .ref q5pd, .int re, .int ac, .int fa, .int fw, .ref q5cn, .ref q5ig, .ref q5ik])), (q5bk, .inl (cI, 15, .inl bk)), (q5nw, .inl (cI, 15, .inl nw)), (q5to, .inl (cI, 12, .inl to)), (q5ne, .inl (cI, 8, .inl ne)), (q5st, .inl (cI, 16, .inl st)), (q5pd, .inl (cI, 60, .inl pd)), (q5cn, .inl (cI, 3, .inl cn)), (q5ig, .inl (cI, 120, .inl ig)), (q5ik, .inl (cZ, 2, .inl ik))] H → va_D A [(q5, .inr (5, [.ref q5bk, .ref q5nw, .ref q5to, .int th, .ref q5ne, .int si, .ref q5st, .int sn, .ref q5pd, .int re, .int ac, .int fa, .int fw, .ref q5cn, .ref q5ig, .ref q5ik])), (q5bk, .inl (cI, 15, .inl bk)), (q5nw, .inl (cI, 15, .inl nw)), (q5to, .inl (cI, 12, .inl to)), (q5ne, .inl (cI, 8, .inl ne)), (q5st, .inl (cI, 16, .inl st)), (q5pd, .inl (cI, 60, .inl pd)), (q5cn, .inl (cI, 3, .inl cn)), (q5ig, .inl (cI, 120, .inl ig)), (q5ik, .inl (cZ, 2, .inl ik))] → va_S A s.heap H locs → lv_has ls 8 [(0, .ref q5), (1, .int v1), (2, .int v2), (3, .int v3), (4, .int v4), (5, .int v5), (6, .int v6), (7, .int v7)] → L_X5_next_67 (L_X5_next_27 v1 v2 n_27) v2 v3 v4 v5 v6 n v7 cn = some (r0, cn_o) → W p l e rm_X5_next s m args below meth c H locs 0 0 Q (F0 m 67 ls []) := by
                    intro n
                    induction n with
                    | zero =>
                      intro v3 v4 v5 v6 v7 cn H locs ls hP hD hS hl hs
                      replace hs : (none : Option (Int32 × Ar)) = some (r0, cn_o) := hs
                      cases hs
                    | succ n_67 ih_67 =>
                      intro v3 v4 v5 v6 v7 cn H locs ls hP hD hS hl hs
                      replace hs : b_X5_next_67 (L_X5_next_27 v1 v2 n_27) (L_X5_next_67 (L_X5_next_27 v1 v2 n_27) v2 v3 v4 v5 v6 n_67) v2 v3 v4 v5 v6 v7 cn = some (r0, cn_o) := hs
                      unfold b_X5_next_67 at hs
                      refine lv_iload hx hb dX5_next_67 (lv_at hl 7 rfl) ?_
                      refine lv_bipush (v := 10) hx hb dX5_next_69 (by decide) ?_
                      refine lv_icmp_ge (tgt := 105) hx hb dX5_next_71 (by decide) (fun c_10 => ?_) (fun c_10 => ?_)
                      · replace hs := if_p c_10 hs
                        refine lv_iconst (v := 0) hx hb dX5_next_105 (by decide) ?_
                        refine lv_istore (lv' := [(7, .int (0 : Int32)), (0, .ref q5), (1, .int v1), (2, .int v2), (3, .int v3), (4, .int v4), (5, .int v5), (6, .int v6)]) hx hb dX5_next_106 hl (by decide) rfl (fun ls hl => ?_)
                        have hL_108 : ∀ (n : Nat) (v3 : Int32) (v4 : Int32) (v5 : Int32) (v6 : Int32) (v7 : Int32) (cn : Ar) (H : Heap) (locs : List Loc) (ls : Array Slot), va_P (dC, dI) vwCl [(q5, .inr (5, [.ref q5bk, .ref q5nw, .ref q5to, .int th, .ref q5ne, .int si, .ref q5st, .int sn, .ref q5pd, .int re, .int ac, .int fa, .int fw, .ref q5cn, .ref q5ig, .ref q5ik])), (q5bk, .inl (cI, 15, .inl bk)), (q5nw, .inl (cI, 15, .inl nw)), (q5to, .inl (cI, 12, .inl to)), (q5ne, .inl (cI, 8, .inl ne)), (q5st, .inl (cI, 16, .inl st)), (q5pd, .inl (cI, 60, .inl pd)), (q5cn, .inl (cI, 3, .inl cn)), (q5ig, .inl (cI, 120, .inl ig)), (q5ik, .inl (cZ, 2, .inl ik))] H → va_D A [(q5, .inr (5, [.ref q5bk, .ref q5nw, .ref q5to, .int th, .ref q5ne, .int si, .ref q5st, .int sn, .ref q5pd, .int re, .int ac, .int fa, .int fw, .ref q5cn, .ref q5ig, .ref q5ik])), (q5bk, .inl (cI, 15, .inl bk)), (q5nw, .inl (cI, 15, .inl nw)), (q5to, .inl (cI, 12, .inl to)), (q5ne, .inl (cI, 8, .inl ne)), (q5st, .inl (cI, 16, .inl st)), (q5pd, .inl (cI, 60, .inl pd)), (q5cn, .inl (cI, 3, .inl cn)), (q5ig, .inl (cI, 120, .inl ig)), (q5ik, .inl (cZ, 2, .inl ik))] → va_S A s.heap H locs → lv_has ls 8 [(0, .ref q5), (1, .int v1), (2, .int v2), (3, .int v3), (4, .int v4), (5, .int v5), (6, .int v6), (7, .int v7)] → L_X5_next_108 (L_X5_next_27 v1 v2 n_27) v3 v4 v5 cn n v6 v7 = some (r0, cn_o) → W p l e rm_X5_next s m args below meth c H locs 0 0 Q (F0 m 108 ls []) := by
                          intro n
                          induction n with
                          | zero =>
                            intro v3 v4 v5 v6 v7 cn H locs ls hP hD hS hl hs
                            replace hs : (none : Option (Int32 × Ar)) = some (r0, cn_o) := hs
                            cases hs
                          | succ n_108 ih_108 =>
                            intro v3 v4 v5 v6 v7 cn H locs ls hP hD hS hl hs
                            replace hs : b_X5_next_108 (L_X5_next_27 v1 v2 n_27) (L_X5_next_108 (L_X5_next_27 v1 v2 n_27) v3 v4 v5 cn n_108) v3 v4 v5 cn v6 v7 = some (r0, cn_o) := hs
                            unfold b_X5_next_108 at hs
                            refine lv_iload hx hb dX5_next_108 (lv_at hl 7 rfl) ?_
                            refine lv_iconst (v := 3) hx hb dX5_next_110 (by decide) ?_
                            refine lv_icmp_ge (tgt := 146) hx hb dX5_next_111 (by decide) (fun c_13 => ?_) (fun c_13 => ?_)
                            · replace hs := if_p c_13 hs
                              refine lv_iload hx hb dX5_next_146 (lv_at hl 6 rfl) ?_
                              refine lv_iload hx hb dX5_next_148 (lv_at hl 4 rfl) ?_
                              have hJ_159 : ∀ (v4 : Int32) (v5 : Int32) (v6 : Int32) (s159_0 : Int32) (cn : Ar) (H : Heap) (locs : List Loc) (ls : Array Slot), va_P (dC, dI) vwCl [(q5, .inr (5, [.ref q5bk, .ref q5nw, .ref q5to, .int th, .ref q5ne, .int si, .ref q5st, .int sn, .ref q5pd, .int re, .int ac, .int fa, .int fw, .ref q5cn, .ref q5ig, .ref q5ik])), (q5bk, .inl (cI, 15, .inl bk)), (q5nw, .inl (cI, 15, .inl nw)), (q5to, .inl (cI, 12, .inl to)), (q5ne, .inl (cI, 8, .inl ne)), (q5st, .inl (cI, 16, .inl st)), (q5pd, .inl (cI, 60, .inl pd)), (q5cn, .inl (cI, 3, .inl cn)), (q5ig, .inl (cI, 120, .inl ig)), (q5ik, .inl (cZ, 2, .inl ik))] H → va_D A [(q5, .inr (5, [.ref q5bk, .ref q5nw, .ref q5to, .int th, .ref q5ne, .int si, .ref q5st, .int sn, .ref q5pd, .int re, .int ac, .int fa, .int fw, .ref q5cn, .ref q5ig, .ref q5ik])), (q5bk, .inl (cI, 15, .inl bk)), (q5nw, .inl (cI, 15, .inl nw)), (q5to, .inl (cI, 12, .inl to)), (q5ne, .inl (cI, 8, .inl ne)), (q5st, .inl (cI, 16, .inl st)), (q5pd, .inl (cI, 60, .inl pd)), (q5cn, .inl (cI, 3, .inl cn)), (q5ig, .inl (cI, 120, .inl ig)), (q5ik, .inl (cZ, 2, .inl ik))] → va_S A s.heap H locs → lv_has ls 8 [(0, .ref q5), (1, .int v1), (2, .int v2), (4, .int v4), (5, .int v5), (6, .int v6)] → j_X5_next_159 (L_X5_next_27 v1 v2 n_27) v4 v5 v6 s159_0 cn = some (r0, cn_o) → W p l e rm_X5_next s m args below meth c H locs 0 0 Q (F0 m 159 ls [.int s159_0]) := by
                                intro v4 v5 v6 s159_0 cn H locs ls hP hD hS hl hs
                                unfold j_X5_next_159 at hs
                                refine lv_istore_n (lv' := [(3, .int s159_0), (0, .ref q5), (1, .int v1), (2, .int v2), (4, .int v4), (5, .int v5), (6, .int v6)]) hx hb dX5_next_159 rfl hl (by decide) rfl (fun ls hl => ?_)
                                refine lv_iload hx hb dX5_next_160 (lv_at hl 6 rfl) ?_
                                refine lv_iload hx hb dX5_next_162 (lv_at hl 4 rfl) ?_
                                refine lv_icmp_ge (tgt := 172) hx hb dX5_next_164 (by decide) (fun c_17 => ?_) (fun c_17 => ?_)
                                · replace hs := if_p c_17 hs
                                  refine lv_iload hx hb dX5_next_172 (lv_at hl 4 rfl) ?_
                                  refine lv_istore (lv' := [(4, .int v4), (3, .int s159_0), (0, .ref q5), (1, .int v1), (2, .int v2), (5, .int v5), (6, .int v6)]) hx hb dX5_next_174 hl (by decide) rfl (fun ls hl => ?_)
                                  refine lv_iinc (v := (v5 + 1)) (lv' := [(5, .int (v5 + 1)), (4, .int v4), (3, .int s159_0), (0, .ref q5), (1, .int v1), (2, .int v2), (6, .int v6)]) hx hb dX5_next_176 hl (k := 5) rfl rfl (by decide) rfl (fun ls hl => ?_)
                                  refine lv_goto (tgt := 27) hx hb dX5_next_179 (by decide) ?_
                                  exact ih_27 v2 s159_0 v4 (v5 + 1) cn _ _ _ hP hD hS (lv_sub hl [3, 4, 5, 2, 1, 0] rfl) hs
                                · replace hs := if_n c_17 hs
                                  refine lv_iload hx hb dX5_next_167 (lv_at hl 6 rfl) ?_
                                  refine lv_goto (tgt := 174) hx hb dX5_next_169 (by decide) ?_
                                  refine lv_istore (lv' := [(4, .int v6), (3, .int s159_0), (0, .ref q5), (1, .int v1), (2, .int v2), (5, .int v5), (6, .int v6)]) hx hb dX5_next_174 hl (by decide) rfl (fun ls hl => ?_)
                                  refine lv_iinc (v := (v5 + 1)) (lv' := [(5, .int (v5 + 1)), (4, .int v6), (3, .int s159_0), (0, .ref q5), (1, .int v1), (2, .int v2), (6, .int v6)]) hx hb dX5_next_176 hl (k := 5) rfl rfl (by decide) rfl (fun ls hl => ?_)
                                  refine lv_goto (tgt := 27) hx hb dX5_next_179 (by decide) ?_
                                  exact ih_27 v2 s159_0 v6 (v5 + 1) cn _ _ _ hP hD hS (lv_sub hl [3, 4, 5, 2, 1, 0] rfl) hs
                              refine lv_icmp_ge (tgt := 158) hx hb dX5_next_150 (by decide) (fun c_14 => ?_) (fun c_14 => ?_)
                              · replace hs := if_p c_14 hs
                                refine lv_iload_n hx hb dX5_next_158 rfl (lv_at hl 3 rfl) ?_
                                exact hJ_159 v4 v5 v6 v3 cn _ _ _ hP hD hS (lv_sub hl [0, 1, 2, 4, 5, 6] rfl) hs
                              · replace hs := if_n c_14 hs
                                refine lv_iload hx hb dX5_next_153 (lv_at hl 5 rfl) ?_
                                refine lv_goto (tgt := 159) hx hb dX5_next_155 (by decide) ?_
                                exact hJ_159 v4 v5 v6 v5 cn _ _ _ hP hD hS (lv_sub hl [0, 1, 2, 4, 5, 6] rfl) hs
                            · replace hs := if_n c_13 hs
                              refine lv_aload_n hx hb dX5_next_114 rfl (lv_at hl 0 rfl) ?_
                              refine va_get (D := (dC, dI)) (ci := 5) (v := .ref q5cn) (C := RX5) (T := TX5) (N := 16) hx hb hts (fun w h => kg1 (iG_5 w h)) hown hK hP 0 rfl rfl 13 (by decide) (hts _ (kg1 mG_322)) (fun _ h9 => h9) rfl dX5_next_115 ?_
                              refine lv_iload hx hb dX5_next_118 (lv_at hl 7 rfl) ?_
                              obtain ⟨hg_15, hs⟩ := gd_e hs
                              refine kald hx hb hK hP 7 0 rfl rfl (j := (Int32.toNatClampNeg v7)) rfl (inb_e hg_15) dX5_next_120 ?_
                              refine lv_iload hx hb dX5_next_121 (lv_at hl 6 rfl) ?_
                              refine lv_icmp_le (tgt := 136) hx hb dX5_next_123 (by decide) (fun c_16 => ?_) (fun c_16 => ?_)
                              · replace hs := if_p c_16 hs
                                refine lv_iload hx hb dX5_next_136 (lv_at hl 6 rfl) ?_
                                refine lv_istore (lv' := [(6, .int v6), (0, .ref q5), (1, .int v1), (2, .int v2), (3, .int v3), (4, .int v4), (5, .int v5), (7, .int v7)]) hx hb dX5_next_138 hl (by decide) rfl (fun ls hl => ?_)
                                refine lv_iinc (v := (v7 + 1)) (lv' := [(7, .int (v7 + 1)), (6, .int v6), (0, .ref q5), (1, .int v1), (2, .int v2), (3, .int v3), (4, .int v4), (5, .int v5)]) hx hb dX5_next_140 hl (k := 7) rfl rfl (by decide) rfl (fun ls hl => ?_)
                                refine lv_goto (tgt := 108) hx hb dX5_next_143 (by decide) ?_
                                exact ih_108 v3 v4 v5 v6 (v7 + 1) cn _ _ _ hP hD hS (lv_sub hl [2, 3, 4, 5, 6, 7, 1, 0] rfl) hs
                              · replace hs := if_n c_16 hs
                                refine lv_aload_n hx hb dX5_next_126 rfl (lv_at hl 0 rfl) ?_
                                refine va_get (D := (dC, dI)) (ci := 5) (v := .ref q5cn) (C := RX5) (T := TX5) (N := 16) hx hb hts (fun w h => kg1 (iG_5 w h)) hown hK hP 0 rfl rfl 13 (by decide) (hts _ (kg1 mG_322)) (fun _ h9 => h9) rfl dX5_next_127 ?_
                                refine lv_iload hx hb dX5_next_130 (lv_at hl 7 rfl) ?_
                                refine kald hx hb hK hP 7 0 rfl rfl (j := (Int32.toNatClampNeg v7)) rfl (inb_e hg_15) dX5_next_132 ?_
                                refine lv_goto (tgt := 138) hx hb dX5_next_133 (by decide) ?_
                                refine lv_istore (lv' := [(6, .int (cn (Int32.toNatClampNeg v7))), (0, .ref q5), (1, .int v1), (2, .int v2), (3, .int v3), (4, .int v4), (5, .int v5), (7, .int v7)]) hx hb dX5_next_138 hl (by decide) rfl (fun ls hl => ?_)
                                refine lv_iinc (v := (v7 + 1)) (lv' := [(7, .int (v7 + 1)), (6, .int (cn (Int32.toNatClampNeg v7))), (0, .ref q5), (1, .int v1), (2, .int v2), (3, .int v3), (4, .int v4), (5, .int v5)]) hx hb dX5_next_140 hl (k := 7) rfl rfl (by decide) rfl (fun ls hl => ?_)
                                refine lv_goto (tgt := 108) hx hb dX5_next_143 (by decide) ?_
                                exact ih_108 v3 v4 v5 (cn (Int32.toNatClampNeg v7)) (v7 + 1) cn _ _ _ hP hD hS (lv_sub hl [2, 3, 4, 5, 6, 7, 1, 0] rfl) hs
                        exact hL_108 fu v3 v4 v5 v6 (0 : Int32) cn _ _ _ hP hD hS (lv_sub hl [1, 2, 3, 4, 5, 6, 7, 0] rfl) hs
                      · replace hs := if_n c_10 hs
                        refine lv_iload_n hx hb dX5_next_74 rfl (lv_at hl 2 rfl) ?_
                        refine lv_iload hx hb dX5_next_75 (lv_at hl 7 rfl) ?_
                        refine kpi (va_runS (As := [.int v2, .int v7]) (rest := []) ⟨hx, hb, hml, hown, hts⟩ (k_X5_has l v2 v7 _ rfl) (va_cwS 2 hts (kGood (kgS mG_352 mG_353 mG_332 mG_327)) rfl rfl rfl hd_X5_has ⟨Nat.le_of_ble_eq_true rfl, Nat.le_of_ble_eq_true rfl⟩) preEq rfl rfl hl.1 rfl (lv_room (Nat.le_of_ble_eq_true rfl)) dX5_next_77 ⟨Nat.zero_le _, Nat.zero_le _⟩) ?_
                        refine lv_if_eq (tgt := 99) hx hb dX5_next_80 (by decide) (fun c_11 => ?_) (fun c_11 => ?_)
                        · replace hs := if_p c_11 hs
                          refine lv_iinc (v := (v7 + 1)) (lv' := [(7, .int (v7 + 1)), (0, .ref q5), (1, .int v1), (2, .int v2), (3, .int v3), (4, .int v4), (5, .int v5), (6, .int v6)]) hx hb dX5_next_99 hl (k := 7) rfl rfl (by decide) rfl (fun ls hl => ?_)
                          refine lv_goto (tgt := 67) hx hb dX5_next_102 (by decide) ?_
                          exact ih_67 v3 v4 v5 v6 (v7 + 1) cn _ _ _ hP hD hS (lv_sub hl [1, 2, 3, 4, 5, 6, 7, 0] rfl) hs
                        · replace hs := if_n c_11 hs
                          refine lv_aload_n hx hb dX5_next_83 rfl (lv_at hl 0 rfl) ?_
                          refine va_get (D := (dC, dI)) (ci := 5) (v := .ref q5cn) (C := RX5) (T := TX5) (N := 16) hx hb hts (fun w h => kg1 (iG_5 w h)) hown hK hP 0 rfl rfl 13 (by decide) (hts _ (kg1 mG_322)) (fun _ h9 => h9) rfl dX5_next_84 ?_
                          refine lv_iload hx hb dX5_next_87 (lv_at hl 5 rfl) ?_
                          refine lv_iload hx hb dX5_next_89 (lv_at hl 7 rfl) ?_
                          refine kpi (va_runS (As := [.int v5, .int v7]) (rest := [.ref q5cn]) ⟨hx, hb, hml, hown, hts⟩ (k_X5_shakes l v5 v7 _ rfl) (va_cwS 2 hts (kGood (kgS mG_356 mG_357 mG_332 mG_354)) rfl rfl rfl hd_X5_shakes ⟨Nat.le_of_ble_eq_true rfl, Nat.le_of_ble_eq_true rfl⟩) preEq rfl rfl hl.1 rfl (lv_room (Nat.le_of_ble_eq_true rfl)) dX5_next_91 ⟨Nat.zero_le _, Nat.zero_le _⟩) ?_
                          refine lv_dup2_11 hx hb dX5_next_94 rfl rfl ?_
                          obtain ⟨hg_12, hs⟩ := gd_e hs
                          refine kald hx hb hK hP 7 0 rfl rfl (j := (Int32.toNatClampNeg (m_X5_shakes v5 v7))) rfl (inb_e hg_12) dX5_next_95 ?_
                          refine lv_iconst (v := 1) hx hb dX5_next_96 (by decide) ?_
                          refine lv_iadd hx hb dX5_next_97 ?_
                          refine kast hx hb hK hP hD hS 7 0 rfl rfl (j := (Int32.toNatClampNeg (m_X5_shakes v5 v7))) rfl (inb_e hg_12) dX5_next_98 (fun H locs hP hD hS => ?_)
                          have hP : va_P (dC, dI) vwCl [(q5, .inr (5, [.ref q5bk, .ref q5nw, .ref q5to, .int th, .ref q5ne, .int si, .ref q5st, .int sn, .ref q5pd, .int re, .int ac, .int fa, .int fw, .ref q5cn, .ref q5ig, .ref q5ik])), (q5bk, .inl (cI, 15, .inl bk)), (q5nw, .inl (cI, 15, .inl nw)), (q5to, .inl (cI, 12, .inl to)), (q5ne, .inl (cI, 8, .inl ne)), (q5st, .inl (cI, 16, .inl st)), (q5pd, .inl (cI, 60, .inl pd)), (q5cn, .inl (cI, 3, .inl (upd cn (Int32.toNatClampNeg (m_X5_shakes v5 v7)) ((cn (Int32.toNatClampNeg (m_X5_shakes v5 v7))) + (1 : Int32))))), (q5ig, .inl (cI, 120, .inl ig)), (q5ik, .inl (cZ, 2, .inl ik))] H := hP
                          have hD : va_D A [(q5, .inr (5, [.ref q5bk, .ref q5nw, .ref q5to, .int th, .ref q5ne, .int si, .ref q5st, .int sn, .ref q5pd, .int re, .int ac, .int fa, .int fw, .ref q5cn, .ref q5ig, .ref q5ik])), (q5bk, .inl (cI, 15, .inl bk)), (q5nw, .inl (cI, 15, .inl nw)), (q5to, .inl (cI, 12, .inl to)), (q5ne, .inl (cI, 8, .inl ne)), (q5st, .inl (cI, 16, .inl st)), (q5pd, .inl (cI, 60, .inl pd)), (q5cn, .inl (cI, 3, .inl (upd cn (Int32.toNatClampNeg (m_X5_shakes v5 v7)) ((cn (Int32.toNatClampNeg (m_X5_shakes v5 v7))) + (1 : Int32))))), (q5ig, .inl (cI, 120, .inl ig)), (q5ik, .inl (cZ, 2, .inl ik))] := hD
                          refine lv_iinc (v := (v7 + 1)) (lv' := [(7, .int (v7 + 1)), (0, .ref q5), (1, .int v1), (2, .int v2), (3, .int v3), (4, .int v4), (5, .int v5), (6, .int v6)]) hx hb dX5_next_99 hl (k := 7) rfl rfl (by decide) rfl (fun ls hl => ?_)
                          refine lv_goto (tgt := 67) hx hb dX5_next_102 (by decide) ?_
                          exact ih_67 v3 v4 v5 v6 (v7 + 1) (upd cn (Int32.toNatClampNeg (m_X5_shakes v5 v7)) ((cn (Int32.toNatClampNeg (m_X5_shakes v5 v7))) + (1 : Int32))) _ _ _ hP hD hS (lv_sub hl [1, 2, 3, 4, 5, 6, 7, 0] rfl) hs
                  exact hL_67 fu v3 v4 v5 v6 (0 : Int32) cn _ _ _ hP hD hS (lv_sub hl [1, 2, 3, 4, 5, 6, 7, 0] rfl) hs
                · replace hs := if_n c_8 hs
                  refine lv_aload_n hx hb dX5_next_50 rfl (lv_at hl 0 rfl) ?_
                  refine va_get (D := (dC, dI)) (ci := 5) (v := .ref q5cn) (C := RX5) (T := TX5) (N := 16) hx hb hts (fun w h => kg1 (iG_5 w h)) hown hK hP 0 rfl rfl 13 (by decide) (hts _ (kg1 mG_322)) (fun _ h9 => h9) rfl dX5_next_51 ?_
                  refine lv_iload hx hb dX5_next_54 (lv_at hl 7 rfl) ?_
                  refine lv_iconst (v := 0) hx hb dX5_next_56 (by decide) ?_
                  obtain ⟨hg_9, hs⟩ := gd_e hs
                  refine kast hx hb hK hP hD hS 7 0 rfl rfl (j := (Int32.toNatClampNeg v7)) rfl (inb_e hg_9) dX5_next_57 (fun H locs hP hD hS => ?_)
                  have hP : va_P (dC, dI) vwCl [(q5, .inr (5, [.ref q5bk, .ref q5nw, .ref q5to, .int th, .ref q5ne, .int si, .ref q5st, .int sn, .ref q5pd, .int re, .int ac, .int fa, .int fw, .ref q5cn, .ref q5ig, .ref q5ik])), (q5bk, .inl (cI, 15, .inl bk)), (q5nw, .inl (cI, 15, .inl nw)), (q5to, .inl (cI, 12, .inl to)), (q5ne, .inl (cI, 8, .inl ne)), (q5st, .inl (cI, 16, .inl st)), (q5pd, .inl (cI, 60, .inl pd)), (q5cn, .inl (cI, 3, .inl (upd cn (Int32.toNatClampNeg v7) (0 : Int32)))), (q5ig, .inl (cI, 120, .inl ig)), (q5ik, .inl (cZ, 2, .inl ik))] H := hP
                  have hD : va_D A [(q5, .inr (5, [.ref q5bk, .ref q5nw, .ref q5to, .int th, .ref q5ne, .int si, .ref q5st, .int sn, .ref q5pd, .int re, .int ac, .int fa, .int fw, .ref q5cn, .ref q5ig, .ref q5ik])), (q5bk, .inl (cI, 15, .inl bk)), (q5nw, .inl (cI, 15, .inl nw)), (q5to, .inl (cI, 12, .inl to)), (q5ne, .inl (cI, 8, .inl ne)), (q5st, .inl (cI, 16, .inl st)), (q5pd, .inl (cI, 60, .inl pd)), (q5cn, .inl (cI, 3, .inl (upd cn (Int32.toNatClampNeg v7) (0 : Int32)))), (q5ig, .inl (cI, 120, .inl ig)), (q5ik, .inl (cZ, 2, .inl ik))] := hD
                  refine lv_iinc (v := (v7 + 1)) (lv' := [(7, .int (v7 + 1)), (0, .ref q5), (1, .int v1), (2, .int v2), (3, .int v3), (4, .int v4), (5, .int v5), (6, .int v6)]) hx hb dX5_next_58 hl (k := 7) rfl rfl (by decide) rfl (fun ls hl => ?_)
                  refine lv_goto (tgt := 44) hx hb dX5_next_61 (by decide) ?_
                  exact ih_44 v3 v4 v5 v6 (v7 + 1) (upd cn (Int32.toNatClampNeg v7) (0 : Int32)) _ _ _ hP hD hS (lv_sub hl [1, 2, 3, 4, 5, 6, 7, 0] rfl) hs
            exact hL_44 fu v3 v4 v5 (0 : Int32) (0 : Int32) cn _ _ _ hP hD hS (lv_sub hl [2, 3, 4, 5, 6, 7, 1, 0] rfl) hs
    exact hL_27 fu r_2 (-6 : Int32) (1000000 : Int32) (0 : Int32) cn _ _ _ hP hD hS (lv_sub hl [4, 5, 3, 2, 1, 0] rfl) hs
  · replace hs := if_p c_1 hs
    refine lv_bipush (v := -2) hx hb dX5_next_9 (by decide) ?_
    cases hs
    exact hret _ _ _ _ hP hD hS (vp_nar_int _) dX5_next_11
abbrev rm_X5_speaks : Room := { frames := 1, cells := 0, slots := 0, locals := 22 }
theorem hd_X5_speaks : yX5_speaks.cls ≠ "java/lang/invoke/MethodHandle" ∧ yX5_speaks.cls ≠ "java/lang/invoke/VarHandle" ∧ (parseMethodDescriptor yX5_speaks.desc).map (fun d => d.parameters.length) = some 2 := by decide +kernel
set_option maxHeartbeats 4000000 in
set_option maxRecDepth 100000 in
theorem k_X5_speaks (l : Launch) (dC : Nat → ClassId) (dI : Nat → Nat → Nat) (cI cZ cS : ClassId) (q5 q5bk q5nw q5to q5ne q5st q5pd q5cn q5ig q5ik : Nat) (sz : Nat) (th : Int32) (si : Int32) (sn : Int32) (re : Int32) (ac : Int32) (fa : Int32) (fw : Int32) (bk : Ar) (nw : Ar) (to : Ar) (ne : Ar) (st : Ar) (pd : Ar) (cn : Ar) (ig : Ar) (ik : Ar) (v1 : Int32) (v2 : Int32) (r0 : Int32) (hs : m_X5_speaks v1 v2 ne = some r0) : Met l yX5_speaks (.code yX5_speaks cX5_speaks 7 (some .int) :: kG) rm_X5_speaks (va_Pc [.ref q5, .int v1, .int v2] (kW (dC, dI) cI cZ cS [(q5, .inr (5, [.ref q5bk, .ref q5nw, .ref q5to, .int th, .ref q5ne, .int si, .ref q5st, .int sn, .ref q5pd, .int re, .int ac, .int fa, .int fw, .ref q5cn, .ref q5ig, .ref q5ik])), (q5bk, .inl (cI, 15, .inl bk)), (q5nw, .inl (cI, 15, .inl nw)), (q5to, .inl (cI, 12, .inl to)), (q5ne, .inl (cI, 8, .inl ne)), (q5st, .inl (cI, 16, .inl st)), (q5pd, .inl (cI, 60, .inl pd)), (q5cn, .inl (cI, 3, .inl cn)), (q5ig, .inl (cI, 120, .inl ig)), (q5ik, .inl (cZ, 2, .inl ik))] sz)) (kQi (dC, dI) [(q5, .inr (5, [.ref q5bk, .ref q5nw, .ref q5to, .int th, .ref q5ne, .int si, .ref q5st, .int sn, .ref q5pd, .int re, .int ac, .int fa, .int fw, .ref q5cn, .ref q5ig, .ref q5ik])), (q5bk, .inl (cI, 15, .inl bk)), (q5nw, .inl (cI, 15, .inl nw)), (q5to, .inl (cI, 12, .inl to)), (q5ne, .inl (cI, 8, .inl ne)), (q5st, .inl (cI, 16, .inl st)), (q5pd, .inl (cI, 60, .inl pd)), (q5cn, .inl (cI, 3, .inl cn)), (q5ig, .inl (cI, 120, .inl ig)), (q5ik, .inl (cZ, 2, .inl ik))] [(q5, .inr (5, [.ref q5bk, .ref q5nw, .ref q5to, .int th, .ref q5ne, .int si, .ref q5st, .int sn, .ref q5pd, .int re, .int ac, .int fa, .int fw, .ref q5cn, .ref q5ig, .ref q5ik])), (q5bk, .inl (cI, 15, .inl bk)), (q5nw, .inl (cI, 15, .inl nw)), (q5to, .inl (cI, 12, .inl to)), (q5ne, .inl (cI, 8, .inl ne)), (q5st, .inl (cI, 16, .inl st)), (q5pd, .inl (cI, 60, .inl pd)), (q5cn, .inl (cI, 3, .inl cn)), (q5ig, .inl (cI, 120, .inl ig)), (q5ik, .inl (cZ, 2, .inl ik))] sz r0) 0 0 (va_A [(q5, .inr (5, [.ref q5bk, .ref q5nw, .ref q5to, .int th, .ref q5ne, .int si, .ref q5st, .int sn, .ref q5pd, .int re, .int ac, .int fa, .int fw, .ref q5cn, .ref q5ig, .ref q5ik])), (q5bk, .inl (cI, 15, .inl bk)), (q5nw, .inl (cI, 15, .inl nw)), (q5to, .inl (cI, 12, .inl to)), (q5ne, .inl (cI, 8, .inl ne)), (q5st, .inl (cI, 16, .inl st)), (q5pd, .inl (cI, 60, .inl pd)), (q5cn, .inl (cI, 3, .inl cn)), (q5ig, .inl (cI, 120, .inl ig)), (q5ik, .inl (cZ, 2, .inl ik))] sz) := by
  refine kMi (own := RX5) (ty := .int) rfl (by decide) rfl ?_ (Nat.le_of_ble_eq_true rfl)
  intro p e s m args below meth c Q A CF hK hN hA hP hD hret ls hl
  have hS : va_S A s.heap s.heap [] := va_S.rf
  obtain ⟨hx, hb, hml, hown, hts⟩ := id CF
  have hl : lv_has ls 7 [(0, .ref q5), (1, .int v1), (2, .int v2)] := hl
  unfold m_X5_speaks at hs
  refine lv_iload_n hx hb dX5_speaks_0 rfl (lv_at hl 1 rfl) ?_
  refine lv_istore_n (lv' := [(3, .int v1), (0, .ref q5), (1, .int v1), (2, .int v2)]) hx hb dX5_speaks_1 rfl hl (by decide) rfl (fun ls hl => ?_)
  refine lv_iconst (v := 0) hx hb dX5_speaks_2 (by decide) ?_
  refine lv_istore (lv' := [(4, .int (0 : Int32)), (3, .int v1), (0, .ref q5), (1, .int v1), (2, .int v2)]) hx hb dX5_speaks_3 hl (by decide) rfl (fun ls hl => ?_)
  have hL_5 : ∀ (n : Nat) (v3 : Int32) (v4 : Int32) (H : Heap) (locs : List Loc) (ls : Array Slot), va_P (dC, dI) vwCl [(q5, .inr (5, [.ref q5bk, .ref q5nw, .ref q5to, .int th, .ref q5ne, .int si, .ref q5st, .int sn, .ref q5pd, .int re, .int ac, .int fa, .int fw, .ref q5cn, .ref q5ig, .ref q5ik])), (q5bk, .inl (cI, 15, .inl bk)), (q5nw, .inl (cI, 15, .inl nw)), (q5to, .inl (cI, 12, .inl to)), (q5ne, .inl (cI, 8, .inl ne)), (q5st, .inl (cI, 16, .inl st)), (q5pd, .inl (cI, 60, .inl pd)), (q5cn, .inl (cI, 3, .inl cn)), (q5ig, .inl (cI, 120, .inl ig)), (q5ik, .inl (cZ, 2, .inl ik))] H → va_D A [(q5, .inr (5, [.ref q5bk, .ref q5nw, .ref q5to, .int th, .ref q5ne, .int si, .ref q5st, .int sn, .ref q5pd, .int re, .int ac, .int fa, .int fw, .ref q5cn, .ref q5ig, .ref q5ik])), (q5bk, .inl (cI, 15, .inl bk)), (q5nw, .inl (cI, 15, .inl nw)), (q5to, .inl (cI, 12, .inl to)), (q5ne, .inl (cI, 8, .inl ne)), (q5st, .inl (cI, 16, .inl st)), (q5pd, .inl (cI, 60, .inl pd)), (q5cn, .inl (cI, 3, .inl cn)), (q5ig, .inl (cI, 120, .inl ig)), (q5ik, .inl (cZ, 2, .inl ik))] → va_S A s.heap H locs → lv_has ls 7 [(0, .ref q5), (2, .int v2), (3, .int v3), (4, .int v4)] → L_X5_speaks_5 v2 ne n v3 v4 = some r0 → W p l e rm_X5_speaks s m args below meth c H locs 0 0 Q (F0 m 5 ls []) := by
    intro n
    induction n with
    | zero =>
      intro v3 v4 H locs ls hP hD hS hl hs
      replace hs : (none : Option (Int32)) = some r0 := hs
      cases hs
    | succ n_5 ih_5 =>
      intro v3 v4 H locs ls hP hD hS hl hs
      replace hs : b_X5_speaks_5  (L_X5_speaks_5 v2 ne n_5) v2 ne v3 v4 = some r0 := hs
      unfold b_X5_speaks_5 at hs
      refine lv_iload hx hb dX5_speaks_5 (lv_at hl 3 rfl) ?_
      refine lv_bipush (v := 8) hx hb dX5_speaks_7 (by decide) ?_
      refine lv_icmp_ge (tgt := 85) hx hb dX5_speaks_9 (by decide) (fun c_1 => ?_) (fun c_1 => ?_)
      · replace hs := if_p c_1 hs
        refine lv_iload_n hx hb dX5_speaks_85 rfl (lv_at hl 2 rfl) ?_
        cases hs
        exact hret _ _ _ _ hP hD hS (vp_nar_int _) dX5_speaks_86
      · replace hs := if_n c_1 hs
        refine lv_iload_n hx hb dX5_speaks_12 rfl (lv_at hl 2 rfl) ?_
        refine lv_istore (lv' := [(5, .int v3), (0, .ref q5), (2, .int v2), (3, .int v3), (4, .int v4)]) hx hb dX5_speaks_13 hl (by decide) rfl (fun ls hl => ?_)
        refine lv_iconst (v := 0) hx hb dX5_speaks_15 (by decide) ?_
        refine lv_istore (lv' := [(6, .int (0 : Int32)), (5, .int v3), (0, .ref q5), (2, .int v2), (3, .int v3), (4, .int v4)]) hx hb dX5_speaks_16 hl (by decide) rfl (fun ls hl => ?_)
        have hL_18 : ∀ (n : Nat) (v3 : Int32) (v4 : Int32) (v5 : Int32) (v6 : Int32) (H : Heap) (locs : List Loc) (ls : Array Slot), va_P (dC, dI) vwCl [(q5, .inr (5, [.ref q5bk, .ref q5nw, .ref q5to, .int th, .ref q5ne, .int si, .ref q5st, .int sn, .ref q5pd, .int re, .int ac, .int fa, .int fw, .ref q5cn, .ref q5ig, .ref q5ik])), (q5bk, .inl (cI, 15, .inl bk)), (q5nw, .inl (cI, 15, .inl nw)), (q5to, .inl (cI, 12, .inl to)), (q5ne, .inl (cI, 8, .inl ne)), (q5st, .inl (cI, 16, .inl st)), (q5pd, .inl (cI, 60, .inl pd)), (q5cn, .inl (cI, 3, .inl cn)), (q5ig, .inl (cI, 120, .inl ig)), (q5ik, .inl (cZ, 2, .inl ik))] H → va_D A [(q5, .inr (5, [.ref q5bk, .ref q5nw, .ref q5to, .int th, .ref q5ne, .int si, .ref q5st, .int sn, .ref q5pd, .int re, .int ac, .int fa, .int fw, .ref q5cn, .ref q5ig, .ref q5ik])), (q5bk, .inl (cI, 15, .inl bk)), (q5nw, .inl (cI, 15, .inl nw)), (q5to, .inl (cI, 12, .inl to)), (q5ne, .inl (cI, 8, .inl ne)), (q5st, .inl (cI, 16, .inl st)), (q5pd, .inl (cI, 60, .inl pd)), (q5cn, .inl (cI, 3, .inl cn)), (q5ig, .inl (cI, 120, .inl ig)), (q5ik, .inl (cZ, 2, .inl ik))] → va_S A s.heap H locs → lv_has ls 7 [(0, .ref q5), (2, .int v2), (3, .int v3), (4, .int v4), (5, .int v5), (6, .int v6)] → L_X5_speaks_18 (L_X5_speaks_5 v2 ne n_5) v2 v3 v4 ne n v5 v6 = some r0 → W p l e rm_X5_speaks s m args below meth c H locs 0 0 Q (F0 m 18 ls []) := by
          intro n
          induction n with
          | zero =>
            intro v3 v4 v5 v6 H locs ls hP hD hS hl hs
            replace hs : (none : Option (Int32)) = some r0 := hs
            cases hs
          | succ n_18 ih_18 =>
            intro v3 v4 v5 v6 H locs ls hP hD hS hl hs
            replace hs : b_X5_speaks_18 (L_X5_speaks_5 v2 ne n_5) (L_X5_speaks_18 (L_X5_speaks_5 v2 ne n_5) v2 v3 v4 ne n_18) v2 v3 v4 ne v5 v6 = some r0 := hs
            unfold b_X5_speaks_18 at hs
            refine lv_iload hx hb dX5_speaks_18 (lv_at hl 5 rfl) ?_
            refine lv_bipush (v := 8) hx hb dX5_speaks_20 (by decide) ?_
            refine lv_icmp_ge (tgt := 76) hx hb dX5_speaks_22 (by decide) (fun c_2 => ?_) (fun c_2 => ?_)
            · replace hs := if_p c_2 hs
              refine lv_iload hx hb dX5_speaks_76 (lv_at hl 4 rfl) ?_
              refine lv_istore_n (lv' := [(3, .int v5), (0, .ref q5), (2, .int v2), (4, .int v4), (5, .int v5), (6, .int v6)]) hx hb dX5_speaks_78 rfl hl (by decide) rfl (fun ls hl => ?_)
              refine lv_iinc (v := (v4 + 1)) (lv' := [(4, .int (v4 + 1)), (3, .int v5), (0, .ref q5), (2, .int v2), (5, .int v5), (6, .int v6)]) hx hb dX5_speaks_79 hl (k := 3) rfl rfl (by decide) rfl (fun ls hl => ?_)
              refine lv_goto (tgt := 5) hx hb dX5_speaks_82 (by decide) ?_
              exact ih_5 v5 (v4 + 1) _ _ _ hP hD hS (lv_sub hl [2, 3, 1, 0] rfl) hs
            · replace hs := if_n c_2 hs
              refine lv_iload hx hb dX5_speaks_25 (lv_at hl 4 rfl) ?_
              refine lv_iload_n hx hb dX5_speaks_27 rfl (lv_at hl 1 rfl) ?_
              refine lv_iload hx hb dX5_speaks_28 (lv_at hl 5 rfl) ?_
              refine kpi (va_runS (As := [.int v2, .int v6]) (rest := [.int v5]) ⟨hx, hb, hml, hown, hts⟩ (k_X5_has l v2 v6 _ rfl) (va_cwS 2 hts (kGood (kgS mG_352 mG_353 mG_332 mG_327)) rfl rfl rfl hd_X5_has ⟨Nat.le_of_ble_eq_true rfl, Nat.le_of_ble_eq_true rfl⟩) preEq rfl rfl hl.1 rfl (lv_room (Nat.le_of_ble_eq_true rfl)) dX5_speaks_30 ⟨Nat.zero_le _, Nat.zero_le _⟩) ?_
              refine lv_if_ne (tgt := 66) hx hb dX5_speaks_33 (by decide) (fun c_3 => ?_) (fun c_3 => ?_)
              · replace hs := if_n c_3 hs
                refine lv_iconst (v := 0) hx hb dX5_speaks_66 (by decide) ?_
                refine lv_ior hx hb dX5_speaks_67 ?_
                refine lv_istore (lv' := [(5, .int (v5 ||| (0 : Int32))), (0, .ref q5), (2, .int v2), (3, .int v3), (4, .int v4), (6, .int v6)]) hx hb dX5_speaks_68 hl (by decide) rfl (fun ls hl => ?_)
                refine lv_iinc (v := (v6 + 1)) (lv' := [(6, .int (v6 + 1)), (5, .int (v5 ||| (0 : Int32))), (0, .ref q5), (2, .int v2), (3, .int v3), (4, .int v4)]) hx hb dX5_speaks_70 hl (k := 5) rfl rfl (by decide) rfl (fun ls hl => ?_)
                refine lv_goto (tgt := 18) hx hb dX5_speaks_73 (by decide) ?_
                exact ih_18 v3 v4 (v5 ||| (0 : Int32)) (v6 + 1) _ _ _ hP hD hS (lv_sub hl [2, 3, 4, 5, 1, 0] rfl) hs
              · replace hs := if_p c_3 hs
                refine lv_iload_n hx hb dX5_speaks_36 rfl (lv_at hl 2 rfl) ?_
                refine lv_iload hx hb dX5_speaks_37 (lv_at hl 5 rfl) ?_
                refine kpi (va_runS (As := [.int v3, .int v6]) (rest := [.int v5]) ⟨hx, hb, hml, hown, hts⟩ (k_X5_has l v3 v6 _ rfl) (va_cwS 2 hts (kGood (kgS mG_352 mG_353 mG_332 mG_327)) rfl rfl rfl hd_X5_has ⟨Nat.le_of_ble_eq_true rfl, Nat.le_of_ble_eq_true rfl⟩) preEq rfl rfl hl.1 rfl (lv_room (Nat.le_of_ble_eq_true rfl)) dX5_speaks_39 ⟨Nat.zero_le _, Nat.zero_le _⟩) ?_
                refine lv_if_ne (tgt := 66) hx hb dX5_speaks_42 (by decide) (fun c_4 => ?_) (fun c_4 => ?_)
                · replace hs := if_n c_4 hs
                  refine lv_iconst (v := 0) hx hb dX5_speaks_66 (by decide) ?_
                  refine lv_ior hx hb dX5_speaks_67 ?_
                  refine lv_istore (lv' := [(5, .int (v5 ||| (0 : Int32))), (0, .ref q5), (2, .int v2), (3, .int v3), (4, .int v4), (6, .int v6)]) hx hb dX5_speaks_68 hl (by decide) rfl (fun ls hl => ?_)
                  refine lv_iinc (v := (v6 + 1)) (lv' := [(6, .int (v6 + 1)), (5, .int (v5 ||| (0 : Int32))), (0, .ref q5), (2, .int v2), (3, .int v3), (4, .int v4)]) hx hb dX5_speaks_70 hl (k := 5) rfl rfl (by decide) rfl (fun ls hl => ?_)
                  refine lv_goto (tgt := 18) hx hb dX5_speaks_73 (by decide) ?_
                  exact ih_18 v3 v4 (v5 ||| (0 : Int32)) (v6 + 1) _ _ _ hP hD hS (lv_sub hl [2, 3, 4, 5, 1, 0] rfl) hs
                · replace hs := if_p c_4 hs
                  refine lv_iload_n hx hb dX5_speaks_45 rfl (lv_at hl 2 rfl) ?_
                  obtain ⟨r_5, hc_6, hs⟩ := ob1_e hs
                  refine kpi (va_runS (As := [.int v3]) (rest := [.int v5]) ⟨hx, hb, hml, hown, hts⟩ (k_X5_bits l v3 r_5 hc_6) (va_cwS 1 hts (kGood (kgS mG_338 mG_339 mG_332 mG_328)) rfl rfl rfl hd_X5_bits ⟨Nat.le_of_ble_eq_true rfl, Nat.le_of_ble_eq_true rfl⟩) preEq rfl rfl hl.1 rfl (lv_room (Nat.le_of_ble_eq_true rfl)) dX5_speaks_46 ⟨Nat.zero_le _, Nat.zero_le _⟩) ?_
                  refine lv_aload_n hx hb dX5_speaks_49 rfl (lv_at hl 0 rfl) ?_
                  refine va_get (D := (dC, dI)) (ci := 5) (v := .ref q5ne) (C := RX5) (T := TX5) (N := 16) hx hb hts (fun w h => kg1 (iG_5 w h)) hown hK hP 0 rfl rfl 4 (by decide) (hts _ (kg1 mG_319)) (fun _ h9 => h9) rfl dX5_speaks_50 ?_
                  refine lv_iload hx hb dX5_speaks_53 (lv_at hl 5 rfl) ?_
                  obtain ⟨hg_7, hs⟩ := gd_e hs
                  refine kald hx hb hK hP 4 0 rfl rfl (j := (Int32.toNatClampNeg v6)) rfl (inb_e hg_7) dX5_speaks_55 ?_
                  refine lv_icmp_lt (tgt := 66) hx hb dX5_speaks_56 (by decide) (fun c_8 => ?_) (fun c_8 => ?_)
                  · replace hs := if_p c_8 hs
                    refine lv_iconst (v := 0) hx hb dX5_speaks_66 (by decide) ?_
                    refine lv_ior hx hb dX5_speaks_67 ?_
                    refine lv_istore (lv' := [(5, .int (v5 ||| (0 : Int32))), (0, .ref q5), (2, .int v2), (3, .int v3), (4, .int v4), (6, .int v6)]) hx hb dX5_speaks_68 hl (by decide) rfl (fun ls hl => ?_)
                    refine lv_iinc (v := (v6 + 1)) (lv' := [(6, .int (v6 + 1)), (5, .int (v5 ||| (0 : Int32))), (0, .ref q5), (2, .int v2), (3, .int v3), (4, .int v4)]) hx hb dX5_speaks_70 hl (k := 5) rfl rfl (by decide) rfl (fun ls hl => ?_)
                    refine lv_goto (tgt := 18) hx hb dX5_speaks_73 (by decide) ?_
                    exact ih_18 v3 v4 (v5 ||| (0 : Int32)) (v6 + 1) _ _ _ hP hD hS (lv_sub hl [2, 3, 4, 5, 1, 0] rfl) hs
                  · replace hs := if_n c_8 hs
                    refine lv_iconst (v := 1) hx hb dX5_speaks_59 (by decide) ?_
                    refine lv_iload hx hb dX5_speaks_60 (lv_at hl 5 rfl) ?_
                    refine lv_ishl hx hb dX5_speaks_62 ?_
                    refine lv_goto (tgt := 67) hx hb dX5_speaks_63 (by decide) ?_
                    refine lv_ior hx hb dX5_speaks_67 ?_
                    refine lv_istore (lv' := [(5, .int (v5 ||| ((1 : Int32) <<< (v6 &&& 31)))), (0, .ref q5), (2, .int v2), (3, .int v3), (4, .int v4), (6, .int v6)]) hx hb dX5_speaks_68 hl (by decide) rfl (fun ls hl => ?_)
                    refine lv_iinc (v := (v6 + 1)) (lv' := [(6, .int (v6 + 1)), (5, .int (v5 ||| ((1 : Int32) <<< (v6 &&& 31)))), (0, .ref q5), (2, .int v2), (3, .int v3), (4, .int v4)]) hx hb dX5_speaks_70 hl (k := 5) rfl rfl (by decide) rfl (fun ls hl => ?_)
                    refine lv_goto (tgt := 18) hx hb dX5_speaks_73 (by decide) ?_
                    exact ih_18 v3 v4 (v5 ||| ((1 : Int32) <<< (v6 &&& 31))) (v6 + 1) _ _ _ hP hD hS (lv_sub hl [2, 3, 4, 5, 1, 0] rfl) hs
        exact hL_18 fu v3 v4 v3 (0 : Int32) _ _ _ hP hD hS (lv_sub hl [2, 3, 4, 5, 1, 0] rfl) hs
  exact hL_5 fu v1 (0 : Int32) _ _ _ hP hD hS (lv_sub hl [2, 4, 1, 0] rfl) hs
abbrev rm_X5_chain : Room := { frames := 2, cells := 0, slots := 0, locals := 48 }
theorem hd_X5_chain : yX5_chain.cls ≠ "java/lang/invoke/MethodHandle" ∧ yX5_chain.cls ≠ "java/lang/invoke/VarHandle" ∧ (parseMethodDescriptor yX5_chain.desc).map (fun d => d.parameters.length) = some 1 := by decide +kernel
set_option maxHeartbeats 4000000 in
set_option maxRecDepth 100000 in
theorem k_X5_chain (l : Launch) (dC : Nat → ClassId) (dI : Nat → Nat → Nat) (cI cZ cS : ClassId) (q5 q5bk q5nw q5to q5ne q5st q5pd q5cn q5ig q5ik : Nat) (sz : Nat) (th : Int32) (si : Int32) (sn : Int32) (re : Int32) (ac : Int32) (fa : Int32) (fw : Int32) (bk : Ar) (nw : Ar) (to : Ar) (ne : Ar) (st : Ar) (pd : Ar) (cn : Ar) (ig : Ar) (ik : Ar) (v1 : Int32) (r0 : Int32) (hs : m_X5_chain v1 ne = some r0) : Met l yX5_chain (.code yX5_chain cX5_chain 2 (some .int) :: kG) rm_X5_chain (va_Pc [.ref q5, .int v1] (kW (dC, dI) cI cZ cS [(q5, .inr (5, [.ref q5bk, .ref q5nw, .ref q5to, .int th, .ref q5ne, .int si, .ref q5st, .int sn, .ref q5pd, .int re, .int ac, .int fa, .int fw, .ref q5cn, .ref q5ig, .ref q5ik])), (q5bk, .inl (cI, 15, .inl bk)), (q5nw, .inl (cI, 15, .inl nw)), (q5to, .inl (cI, 12, .inl to)), (q5ne, .inl (cI, 8, .inl ne)), (q5st, .inl (cI, 16, .inl st)), (q5pd, .inl (cI, 60, .inl pd)), (q5cn, .inl (cI, 3, .inl cn)), (q5ig, .inl (cI, 120, .inl ig)), (q5ik, .inl (cZ, 2, .inl ik))] sz)) (kQi (dC, dI) [(q5, .inr (5, [.ref q5bk, .ref q5nw, .ref q5to, .int th, .ref q5ne, .int si, .ref q5st, .int sn, .ref q5pd, .int re, .int ac, .int fa, .int fw, .ref q5cn, .ref q5ig, .ref q5ik])), (q5bk, .inl (cI, 15, .inl bk)), (q5nw, .inl (cI, 15, .inl nw)), (q5to, .inl (cI, 12, .inl to)), (q5ne, .inl (cI, 8, .inl ne)), (q5st, .inl (cI, 16, .inl st)), (q5pd, .inl (cI, 60, .inl pd)), (q5cn, .inl (cI, 3, .inl cn)), (q5ig, .inl (cI, 120, .inl ig)), (q5ik, .inl (cZ, 2, .inl ik))] [(q5, .inr (5, [.ref q5bk, .ref q5nw, .ref q5to, .int th, .ref q5ne, .int si, .ref q5st, .int sn, .ref q5pd, .int re, .int ac, .int fa, .int fw, .ref q5cn, .ref q5ig, .ref q5ik])), (q5bk, .inl (cI, 15, .inl bk)), (q5nw, .inl (cI, 15, .inl nw)), (q5to, .inl (cI, 12, .inl to)), (q5ne, .inl (cI, 8, .inl ne)), (q5st, .inl (cI, 16, .inl st)), (q5pd, .inl (cI, 60, .inl pd)), (q5cn, .inl (cI, 3, .inl cn)), (q5ig, .inl (cI, 120, .inl ig)), (q5ik, .inl (cZ, 2, .inl ik))] sz r0) 0 0 (va_A [(q5, .inr (5, [.ref q5bk, .ref q5nw, .ref q5to, .int th, .ref q5ne, .int si, .ref q5st, .int sn, .ref q5pd, .int re, .int ac, .int fa, .int fw, .ref q5cn, .ref q5ig, .ref q5ik])), (q5bk, .inl (cI, 15, .inl bk)), (q5nw, .inl (cI, 15, .inl nw)), (q5to, .inl (cI, 12, .inl to)), (q5ne, .inl (cI, 8, .inl ne)), (q5st, .inl (cI, 16, .inl st)), (q5pd, .inl (cI, 60, .inl pd)), (q5cn, .inl (cI, 3, .inl cn)), (q5ig, .inl (cI, 120, .inl ig)), (q5ik, .inl (cZ, 2, .inl ik))] sz) := by
  refine kMi (own := RX5) (ty := .int) rfl (by decide) rfl ?_ (Nat.le_of_ble_eq_true rfl)
  intro p e s m args below meth c Q A CF hK hN hA hP hD hret ls hl
  have hS : va_S A s.heap s.heap [] := va_S.rf
  obtain ⟨hx, hb, hml, hown, hts⟩ := id CF
  have hl : lv_has ls 2 [(0, .ref q5), (1, .int v1)] := hl
  unfold m_X5_chain at hs
  refine lv_iload_n hx hb dX5_chain_0 rfl (lv_at hl 1 rfl) ?_
  refine lv_iconst (v := 0) hx hb dX5_chain_1 (by decide) ?_
  refine lv_sipush (v := 255) hx hb dX5_chain_2 (by decide) ?_
  refine kpi (va_runS (As := [.int v1, .int (0 : Int32), .int (255 : Int32)]) (rest := []) ⟨hx, hb, hml, hown, hts⟩ (k_X5_in l v1 (0 : Int32) (255 : Int32) _ rfl) (va_cwS 3 hts (kGood (kgS mG_330 mG_331 mG_332 mG_326)) rfl rfl rfl hd_X5_in ⟨Nat.le_of_ble_eq_true rfl, Nat.le_of_ble_eq_true rfl⟩) preEq rfl rfl hl.1 rfl (lv_room (Nat.le_of_ble_eq_true rfl)) dX5_chain_5 ⟨Nat.zero_le _, Nat.zero_le _⟩) ?_
  refine lv_if_eq (tgt := 20) hx hb dX5_chain_8 (by decide) (fun c_1 => ?_) (fun c_1 => ?_)
  · replace hs := if_p c_1 hs
    refine lv_iconst (v := -1) hx hb dX5_chain_20 (by decide) ?_
    cases hs
    exact hret _ _ _ _ hP hD hS (vp_nar_int _) dX5_chain_21
  · replace hs := if_n c_1 hs
    refine lv_aload_n hx hb dX5_chain_11 rfl (lv_at hl 0 rfl) ?_
    refine lv_iload_n hx hb dX5_chain_12 rfl (lv_at hl 1 rfl) ?_
    refine lv_iconst (v := 0) hx hb dX5_chain_13 (by decide) ?_
    obtain ⟨r_2, hc_3, hs⟩ := ob1_e hs
    refine kci (wr := []) (ws' := [(q5, .inr (5, [.ref q5bk, .ref q5nw, .ref q5to, .int th, .ref q5ne, .int si, .ref q5st, .int sn, .ref q5pd, .int re, .int ac, .int fa, .int fw, .ref q5cn, .ref q5ig, .ref q5ik])), (q5bk, .inl (cI, 15, .inl bk)), (q5nw, .inl (cI, 15, .inl nw)), (q5to, .inl (cI, 12, .inl to)), (q5ne, .inl (cI, 8, .inl ne)), (q5st, .inl (cI, 16, .inl st)), (q5pd, .inl (cI, 60, .inl pd)), (q5cn, .inl (cI, 3, .inl cn)), (q5ig, .inl (cI, 120, .inl ig)), (q5ik, .inl (cZ, 2, .inl ik))]) (va_runV (As := [.int v1, .int (0 : Int32)]) (rest := []) ⟨hx, hb, hml, hown, hts⟩ (k_X5_speaks l dC dI cI cZ cS q5 q5bk q5nw q5to q5ne q5st q5pd q5cn q5ig q5ik s.heap.size th si sn re ac fa fw bk nw to ne st pd cn ig ik v1 (0 : Int32) r_2 hc_3) (cwV 2 hts (kGood (kgV mG_424 mG_425 mG_426 mG_332 mG_422)) rfl rfl rfl ⟨rfl, hd_X5_speaks⟩ ⟨Nat.le_of_ble_eq_true rfl, Nat.le_of_ble_eq_true rfl⟩) (kpV hK hN (hP.sub (ws' := [(q5, .inr (5, [.ref q5bk, .ref q5nw, .ref q5to, .int th, .ref q5ne, .int si, .ref q5st, .int sn, .ref q5pd, .int re, .int ac, .int fa, .int fw, .ref q5cn, .ref q5ig, .ref q5ik])), (q5bk, .inl (cI, 15, .inl bk)), (q5nw, .inl (cI, 15, .inl nw)), (q5to, .inl (cI, 12, .inl to)), (q5ne, .inl (cI, 8, .inl ne)), (q5st, .inl (cI, 16, .inl st)), (q5pd, .inl (cI, 60, .inl pd)), (q5cn, .inl (cI, 3, .inl cn)), (q5ig, .inl (cI, 120, .inl ig)), (q5ik, .inl (cZ, 2, .inl ik))]) [0, 1, 2, 3, 4, 5, 6, 7, 8, 9] rfl) (hD.sub (ws' := [(q5, .inr (5, [.ref q5bk, .ref q5nw, .ref q5to, .int th, .ref q5ne, .int si, .ref q5st, .int sn, .ref q5pd, .int re, .int ac, .int fa, .int fw, .ref q5cn, .ref q5ig, .ref q5ik])), (q5bk, .inl (cI, 15, .inl bk)), (q5nw, .inl (cI, 15, .inl nw)), (q5to, .inl (cI, 12, .inl to)), (q5ne, .inl (cI, 8, .inl ne)), (q5st, .inl (cI, 16, .inl st)), (q5pd, .inl (cI, 60, .inl pd)), (q5cn, .inl (cI, 3, .inl cn)), (q5ig, .inl (cI, 120, .inl ig)), (q5ik, .inl (cZ, 2, .inl ik))]) [0, 1, 2, 3, 4, 5, 6, 7, 8, 9] rfl rfl) rfl rfl rfl) rfl rfl hl.1 rfl (lv_room (Nat.le_of_ble_eq_true rfl)) dX5_chain_14 ⟨Nat.zero_le _, Nat.zero_le _⟩) hP hD hS hA [0, 1, 2, 3, 4, 5, 6, 7, 8, 9] [] [0, 1, 2, 3, 4, 5, 6, 7, 8, 9] rfl rfl rfl (by decide) rfl rfl (fun H locs hP hD hS => ?_)
    refine lv_goto (tgt := 21) hx hb dX5_chain_17 (by decide) ?_
    cases hs
    exact hret _ _ _ _ hP hD hS (vp_nar_int _) dX5_chain_21
abbrev rm_X5_quiet : Room := { frames := 2, cells := 0, slots := 0, locals := 48 }
theorem hd_X5_quiet : yX5_quiet.cls ≠ "java/lang/invoke/MethodHandle" ∧ yX5_quiet.cls ≠ "java/lang/invoke/VarHandle" ∧ (parseMethodDescriptor yX5_quiet.desc).map (fun d => d.parameters.length) = some 3 := by decide +kernel
set_option maxHeartbeats 4000000 in
set_option maxRecDepth 100000 in
theorem k_X5_quiet (l : Launch) (dC : Nat → ClassId) (dI : Nat → Nat → Nat) (cI cZ cS : ClassId) (q5 q5bk q5nw q5to q5ne q5st q5pd q5cn q5ig q5ik : Nat) (sz : Nat) (th : Int32) (si : Int32) (sn : Int32) (re : Int32) (ac : Int32) (fa : Int32) (fw : Int32) (bk : Ar) (nw : Ar) (to : Ar) (ne : Ar) (st : Ar) (pd : Ar) (cn : Ar) (ig : Ar) (ik : Ar) (v1 : Int32) (v2 : Int32) (v3 : Int32) (r0 : Int32) (hs : m_X5_quiet v1 v2 v3 ne = some r0) : Met l yX5_quiet (.code yX5_quiet cX5_quiet 7 (some .int) :: kG) rm_X5_quiet (va_Pc [.ref q5, .int v1, .int v2, .int v3] (kW (dC, dI) cI cZ cS [(q5, .inr (5, [.ref q5bk, .ref q5nw, .ref q5to, .int th, .ref q5ne, .int si, .ref q5st, .int sn, .ref q5pd, .int re, .int ac, .int fa, .int fw, .ref q5cn, .ref q5ig, .ref q5ik])), (q5bk, .inl (cI, 15, .inl bk)), (q5nw, .inl (cI, 15, .inl nw)), (q5to, .inl (cI, 12, .inl to)), (q5ne, .inl (cI, 8, .inl ne)), (q5st, .inl (cI, 16, .inl st)), (q5pd, .inl (cI, 60, .inl pd)), (q5cn, .inl (cI, 3, .inl cn)), (q5ig, .inl (cI, 120, .inl ig)), (q5ik, .inl (cZ, 2, .inl ik))] sz)) (kQi (dC, dI) [(q5, .inr (5, [.ref q5bk, .ref q5nw, .ref q5to, .int th, .ref q5ne, .int si, .ref q5st, .int sn, .ref q5pd, .int re, .int ac, .int fa, .int fw, .ref q5cn, .ref q5ig, .ref q5ik])), (q5bk, .inl (cI, 15, .inl bk)), (q5nw, .inl (cI, 15, .inl nw)), (q5to, .inl (cI, 12, .inl to)), (q5ne, .inl (cI, 8, .inl ne)), (q5st, .inl (cI, 16, .inl st)), (q5pd, .inl (cI, 60, .inl pd)), (q5cn, .inl (cI, 3, .inl cn)), (q5ig, .inl (cI, 120, .inl ig)), (q5ik, .inl (cZ, 2, .inl ik))] [(q5, .inr (5, [.ref q5bk, .ref q5nw, .ref q5to, .int th, .ref q5ne, .int si, .ref q5st, .int sn, .ref q5pd, .int re, .int ac, .int fa, .int fw, .ref q5cn, .ref q5ig, .ref q5ik])), (q5bk, .inl (cI, 15, .inl bk)), (q5nw, .inl (cI, 15, .inl nw)), (q5to, .inl (cI, 12, .inl to)), (q5ne, .inl (cI, 8, .inl ne)), (q5st, .inl (cI, 16, .inl st)), (q5pd, .inl (cI, 60, .inl pd)), (q5cn, .inl (cI, 3, .inl cn)), (q5ig, .inl (cI, 120, .inl ig)), (q5ik, .inl (cZ, 2, .inl ik))] sz r0) 0 0 (va_A [(q5, .inr (5, [.ref q5bk, .ref q5nw, .ref q5to, .int th, .ref q5ne, .int si, .ref q5st, .int sn, .ref q5pd, .int re, .int ac, .int fa, .int fw, .ref q5cn, .ref q5ig, .ref q5ik])), (q5bk, .inl (cI, 15, .inl bk)), (q5nw, .inl (cI, 15, .inl nw)), (q5to, .inl (cI, 12, .inl to)), (q5ne, .inl (cI, 8, .inl ne)), (q5st, .inl (cI, 16, .inl st)), (q5pd, .inl (cI, 60, .inl pd)), (q5cn, .inl (cI, 3, .inl cn)), (q5ig, .inl (cI, 120, .inl ig)), (q5ik, .inl (cZ, 2, .inl ik))] sz) := by
  refine kMi (own := RX5) (ty := .int) rfl (by decide) rfl ?_ (Nat.le_of_ble_eq_true rfl)
  intro p e s m args below meth c Q A CF hK hN hA hP hD hret ls hl
  have hS : va_S A s.heap s.heap [] := va_S.rf
  obtain ⟨hx, hb, hml, hown, hts⟩ := id CF
  have hl : lv_has ls 7 [(0, .ref q5), (1, .int v1), (2, .int v2), (3, .int v3)] := hl
  unfold m_X5_quiet at hs
  refine lv_iload_n hx hb dX5_quiet_0 rfl (lv_at hl 1 rfl) ?_
  refine lv_iconst (v := 0) hx hb dX5_quiet_1 (by decide) ?_
  refine lv_sipush (v := 255) hx hb dX5_quiet_2 (by decide) ?_
  refine kpi (va_runS (As := [.int v1, .int (0 : Int32), .int (255 : Int32)]) (rest := []) ⟨hx, hb, hml, hown, hts⟩ (k_X5_in l v1 (0 : Int32) (255 : Int32) _ rfl) (va_cwS 3 hts (kGood (kgS mG_330 mG_331 mG_332 mG_326)) rfl rfl rfl hd_X5_in ⟨Nat.le_of_ble_eq_true rfl, Nat.le_of_ble_eq_true rfl⟩) preEq rfl rfl hl.1 rfl (lv_room (Nat.le_of_ble_eq_true rfl)) dX5_quiet_5 ⟨Nat.zero_le _, Nat.zero_le _⟩) ?_
  refine lv_if_ne (tgt := 13) hx hb dX5_quiet_8 (by decide) (fun c_1 => ?_) (fun c_1 => ?_)
  · replace hs := if_n c_1 hs
    refine lv_iload_n hx hb dX5_quiet_13 rfl (lv_at hl 2 rfl) ?_
    refine lv_iconst (v := 0) hx hb dX5_quiet_14 (by decide) ?_
    refine lv_bipush (v := 8) hx hb dX5_quiet_15 (by decide) ?_
    refine kpi (va_runS (As := [.int v2, .int (0 : Int32), .int (8 : Int32)]) (rest := []) ⟨hx, hb, hml, hown, hts⟩ (k_X5_in l v2 (0 : Int32) (8 : Int32) _ rfl) (va_cwS 3 hts (kGood (kgS mG_330 mG_331 mG_332 mG_326)) rfl rfl rfl hd_X5_in ⟨Nat.le_of_ble_eq_true rfl, Nat.le_of_ble_eq_true rfl⟩) preEq rfl rfl hl.1 rfl (lv_room (Nat.le_of_ble_eq_true rfl)) dX5_quiet_17 ⟨Nat.zero_le _, Nat.zero_le _⟩) ?_
    refine lv_if_eq (tgt := 32) hx hb dX5_quiet_20 (by decide) (fun c_2 => ?_) (fun c_2 => ?_)
    · replace hs := if_p c_2 hs
      refine lv_bipush (v := -2) hx hb dX5_quiet_32 (by decide) ?_
      cases hs
      exact hret _ _ _ _ hP hD hS (vp_nar_int _) dX5_quiet_34
    · replace hs := if_n c_2 hs
      refine lv_iload_n hx hb dX5_quiet_23 rfl (lv_at hl 3 rfl) ?_
      refine lv_iconst (v := 0) hx hb dX5_quiet_24 (by decide) ?_
      refine lv_iconst (v := 1) hx hb dX5_quiet_25 (by decide) ?_
      refine kpi (va_runS (As := [.int v3, .int (0 : Int32), .int (1 : Int32)]) (rest := []) ⟨hx, hb, hml, hown, hts⟩ (k_X5_in l v3 (0 : Int32) (1 : Int32) _ rfl) (va_cwS 3 hts (kGood (kgS mG_330 mG_331 mG_332 mG_326)) rfl rfl rfl hd_X5_in ⟨Nat.le_of_ble_eq_true rfl, Nat.le_of_ble_eq_true rfl⟩) preEq rfl rfl hl.1 rfl (lv_room (Nat.le_of_ble_eq_true rfl)) dX5_quiet_26 ⟨Nat.zero_le _, Nat.zero_le _⟩) ?_
      refine lv_if_ne (tgt := 35) hx hb dX5_quiet_29 (by decide) (fun c_3 => ?_) (fun c_3 => ?_)
      · replace hs := if_n c_3 hs
        refine lv_bipush (v := -6) hx hb dX5_quiet_35 (by decide) ?_
        refine lv_istore (lv' := [(4, .int (-6 : Int32)), (0, .ref q5), (1, .int v1), (2, .int v2), (3, .int v3)]) hx hb dX5_quiet_37 hl (by decide) rfl (fun ls hl => ?_)
        refine lv_iconst (v := 0) hx hb dX5_quiet_39 (by decide) ?_
        refine lv_istore (lv' := [(5, .int (0 : Int32)), (4, .int (-6 : Int32)), (0, .ref q5), (1, .int v1), (2, .int v2), (3, .int v3)]) hx hb dX5_quiet_40 hl (by decide) rfl (fun ls hl => ?_)
        have hL_42 : ∀ (n : Nat) (v4 : Int32) (v5 : Int32) (H : Heap) (locs : List Loc) (ls : Array Slot), va_P (dC, dI) vwCl [(q5, .inr (5, [.ref q5bk, .ref q5nw, .ref q5to, .int th, .ref q5ne, .int si, .ref q5st, .int sn, .ref q5pd, .int re, .int ac, .int fa, .int fw, .ref q5cn, .ref q5ig, .ref q5ik])), (q5bk, .inl (cI, 15, .inl bk)), (q5nw, .inl (cI, 15, .inl nw)), (q5to, .inl (cI, 12, .inl to)), (q5ne, .inl (cI, 8, .inl ne)), (q5st, .inl (cI, 16, .inl st)), (q5pd, .inl (cI, 60, .inl pd)), (q5cn, .inl (cI, 3, .inl cn)), (q5ig, .inl (cI, 120, .inl ig)), (q5ik, .inl (cZ, 2, .inl ik))] H → va_D A [(q5, .inr (5, [.ref q5bk, .ref q5nw, .ref q5to, .int th, .ref q5ne, .int si, .ref q5st, .int sn, .ref q5pd, .int re, .int ac, .int fa, .int fw, .ref q5cn, .ref q5ig, .ref q5ik])), (q5bk, .inl (cI, 15, .inl bk)), (q5nw, .inl (cI, 15, .inl nw)), (q5to, .inl (cI, 12, .inl to)), (q5ne, .inl (cI, 8, .inl ne)), (q5st, .inl (cI, 16, .inl st)), (q5pd, .inl (cI, 60, .inl pd)), (q5cn, .inl (cI, 3, .inl cn)), (q5ig, .inl (cI, 120, .inl ig)), (q5ik, .inl (cZ, 2, .inl ik))] → va_S A s.heap H locs → lv_has ls 7 [(0, .ref q5), (1, .int v1), (2, .int v2), (3, .int v3), (4, .int v4), (5, .int v5)] → L_X5_quiet_42 v1 v2 v3 ne n v4 v5 = some r0 → W p l e rm_X5_quiet s m args below meth c H locs 0 0 Q (F0 m 42 ls []) := by
          intro n
          induction n with
          | zero =>
            intro v4 v5 H locs ls hP hD hS hl hs
            replace hs : (none : Option (Int32)) = some r0 := hs
            cases hs
          | succ n_42 ih_42 =>
            intro v4 v5 H locs ls hP hD hS hl hs
            replace hs : b_X5_quiet_42  (L_X5_quiet_42 v1 v2 v3 ne n_42) v1 v2 v3 ne v4 v5 = some r0 := hs
            unfold b_X5_quiet_42 at hs
            refine lv_iload hx hb dX5_quiet_42 (lv_at hl 5 rfl) ?_
            refine lv_sipush (v := 256) hx hb dX5_quiet_44 (by decide) ?_
            refine lv_icmp_ge (tgt := 116) hx hb dX5_quiet_47 (by decide) (fun c_4 => ?_) (fun c_4 => ?_)
            · replace hs := if_p c_4 hs
              refine lv_iload hx hb dX5_quiet_116 (lv_at hl 4 rfl) ?_
              refine lv_if_lt (tgt := 126) hx hb dX5_quiet_118 (by decide) (fun c_5 => ?_) (fun c_5 => ?_)
              · replace hs := if_p c_5 hs
                refine lv_iload hx hb dX5_quiet_126 (lv_at hl 4 rfl) ?_
                refine lv_goto (tgt := 136) hx hb dX5_quiet_128 (by decide) ?_
                cases hs
                exact hret _ _ _ _ hP hD hS (vp_nar_int _) dX5_quiet_136
              · replace hs := if_n c_5 hs
                refine lv_iload_n hx hb dX5_quiet_121 rfl (lv_at hl 3 rfl) ?_
                refine lv_iconst (v := 1) hx hb dX5_quiet_122 (by decide) ?_
                refine lv_icmp_ne (tgt := 131) hx hb dX5_quiet_123 (by decide) (fun c_6 => ?_) (fun c_6 => ?_)
                · replace hs := if_n c_6 hs
                  refine lv_iload hx hb dX5_quiet_131 (lv_at hl 4 rfl) ?_
                  obtain ⟨r_7, hc_8, hs⟩ := ob1_e hs
                  refine kpi (va_runS (As := [.int v4]) (rest := []) ⟨hx, hb, hml, hown, hts⟩ (k_X5_bits l v4 r_7 hc_8) (va_cwS 1 hts (kGood (kgS mG_338 mG_339 mG_332 mG_328)) rfl rfl rfl hd_X5_bits ⟨Nat.le_of_ble_eq_true rfl, Nat.le_of_ble_eq_true rfl⟩) preEq rfl rfl hl.1 rfl (lv_room (Nat.le_of_ble_eq_true rfl)) dX5_quiet_133 ⟨Nat.zero_le _, Nat.zero_le _⟩) ?_
                  cases hs
                  exact hret _ _ _ _ hP hD hS (vp_nar_int _) dX5_quiet_136
                · replace hs := if_p c_6 hs
                  refine lv_iload hx hb dX5_quiet_126 (lv_at hl 4 rfl) ?_
                  refine lv_goto (tgt := 136) hx hb dX5_quiet_128 (by decide) ?_
                  cases hs
                  exact hret _ _ _ _ hP hD hS (vp_nar_int _) dX5_quiet_136
            · replace hs := if_n c_4 hs
              refine lv_iload hx hb dX5_quiet_50 (lv_at hl 5 rfl) ?_
              refine lv_iload_n hx hb dX5_quiet_52 rfl (lv_at hl 1 rfl) ?_
              refine lv_iand hx hb dX5_quiet_53 ?_
              have hJ_80 : ∀ (v4 : Int32) (v5 : Int32) (s80_0 : Int32) (H : Heap) (locs : List Loc) (ls : Array Slot), va_P (dC, dI) vwCl [(q5, .inr (5, [.ref q5bk, .ref q5nw, .ref q5to, .int th, .ref q5ne, .int si, .ref q5st, .int sn, .ref q5pd, .int re, .int ac, .int fa, .int fw, .ref q5cn, .ref q5ig, .ref q5ik])), (q5bk, .inl (cI, 15, .inl bk)), (q5nw, .inl (cI, 15, .inl nw)), (q5to, .inl (cI, 12, .inl to)), (q5ne, .inl (cI, 8, .inl ne)), (q5st, .inl (cI, 16, .inl st)), (q5pd, .inl (cI, 60, .inl pd)), (q5cn, .inl (cI, 3, .inl cn)), (q5ig, .inl (cI, 120, .inl ig)), (q5ik, .inl (cZ, 2, .inl ik))] H → va_D A [(q5, .inr (5, [.ref q5bk, .ref q5nw, .ref q5to, .int th, .ref q5ne, .int si, .ref q5st, .int sn, .ref q5pd, .int re, .int ac, .int fa, .int fw, .ref q5cn, .ref q5ig, .ref q5ik])), (q5bk, .inl (cI, 15, .inl bk)), (q5nw, .inl (cI, 15, .inl nw)), (q5to, .inl (cI, 12, .inl to)), (q5ne, .inl (cI, 8, .inl ne)), (q5st, .inl (cI, 16, .inl st)), (q5pd, .inl (cI, 60, .inl pd)), (q5cn, .inl (cI, 3, .inl cn)), (q5ig, .inl (cI, 120, .inl ig)), (q5ik, .inl (cZ, 2, .inl ik))] → va_S A s.heap H locs → lv_has ls 7 [(0, .ref q5), (1, .int v1), (2, .int v2), (3, .int v3), (4, .int v4), (5, .int v5)] → j_X5_quiet_80 (L_X5_quiet_42 v1 v2 v3 ne n_42) v1 v2 v4 v5 s80_0 ne = some r0 → W p l e rm_X5_quiet s m args below meth c H locs 0 0 Q (F0 m 80 ls [.int s80_0]) := by
                intro v4 v5 s80_0 H locs ls hP hD hS hl hs
                unfold j_X5_quiet_80 at hs
                refine lv_istore (lv' := [(6, .int s80_0), (0, .ref q5), (1, .int v1), (2, .int v2), (3, .int v3), (4, .int v4), (5, .int v5)]) hx hb dX5_quiet_80 hl (by decide) rfl (fun ls hl => ?_)
                refine lv_iload hx hb dX5_quiet_82 (lv_at hl 0 rfl) ?_
                refine lv_if_eq (tgt := 106) hx hb dX5_quiet_84 (by decide) (fun c_16 => ?_) (fun c_16 => ?_)
                · replace hs := if_p c_16 hs
                  refine lv_iload hx hb dX5_quiet_106 (lv_at hl 5 rfl) ?_
                  refine lv_istore (lv' := [(4, .int v4), (6, .int s80_0), (0, .ref q5), (1, .int v1), (2, .int v2), (3, .int v3), (5, .int v5)]) hx hb dX5_quiet_108 hl (by decide) rfl (fun ls hl => ?_)
                  refine lv_iinc (v := (v5 + 1)) (lv' := [(5, .int (v5 + 1)), (4, .int v4), (6, .int s80_0), (0, .ref q5), (1, .int v1), (2, .int v2), (3, .int v3)]) hx hb dX5_quiet_110 hl (k := 6) rfl rfl (by decide) rfl (fun ls hl => ?_)
                  refine lv_goto (tgt := 42) hx hb dX5_quiet_113 (by decide) ?_
                  exact ih_42 v4 (v5 + 1) _ _ _ hP hD hS (lv_sub hl [3, 4, 5, 6, 1, 0] rfl) hs
                · replace hs := if_n c_16 hs
                  refine lv_aload_n hx hb dX5_quiet_87 rfl (lv_at hl 1 rfl) ?_
                  refine lv_iload_n hx hb dX5_quiet_88 rfl (lv_at hl 2 rfl) ?_
                  refine lv_iload hx hb dX5_quiet_89 (lv_at hl 6 rfl) ?_
                  obtain ⟨r_17, hc_18, hs⟩ := ob1_e hs
                  refine kci (wr := []) (ws' := [(q5, .inr (5, [.ref q5bk, .ref q5nw, .ref q5to, .int th, .ref q5ne, .int si, .ref q5st, .int sn, .ref q5pd, .int re, .int ac, .int fa, .int fw, .ref q5cn, .ref q5ig, .ref q5ik])), (q5bk, .inl (cI, 15, .inl bk)), (q5nw, .inl (cI, 15, .inl nw)), (q5to, .inl (cI, 12, .inl to)), (q5ne, .inl (cI, 8, .inl ne)), (q5st, .inl (cI, 16, .inl st)), (q5pd, .inl (cI, 60, .inl pd)), (q5cn, .inl (cI, 3, .inl cn)), (q5ig, .inl (cI, 120, .inl ig)), (q5ik, .inl (cZ, 2, .inl ik))]) (va_runV (As := [.int v1, .int v5]) (rest := []) ⟨hx, hb, hml, hown, hts⟩ (k_X5_speaks l dC dI cI cZ cS q5 q5bk q5nw q5to q5ne q5st q5pd q5cn q5ig q5ik H.size th si sn re ac fa fw bk nw to ne st pd cn ig ik v1 v5 r_17 hc_18) (cwV 2 hts (kGood (kgV mG_424 mG_425 mG_426 mG_332 mG_422)) rfl rfl rfl ⟨rfl, hd_X5_speaks⟩ ⟨Nat.le_of_ble_eq_true rfl, Nat.le_of_ble_eq_true rfl⟩) (kpV hK hN (hP.sub (ws' := [(q5, .inr (5, [.ref q5bk, .ref q5nw, .ref q5to, .int th, .ref q5ne, .int si, .ref q5st, .int sn, .ref q5pd, .int re, .int ac, .int fa, .int fw, .ref q5cn, .ref q5ig, .ref q5ik])), (q5bk, .inl (cI, 15, .inl bk)), (q5nw, .inl (cI, 15, .inl nw)), (q5to, .inl (cI, 12, .inl to)), (q5ne, .inl (cI, 8, .inl ne)), (q5st, .inl (cI, 16, .inl st)), (q5pd, .inl (cI, 60, .inl pd)), (q5cn, .inl (cI, 3, .inl cn)), (q5ig, .inl (cI, 120, .inl ig)), (q5ik, .inl (cZ, 2, .inl ik))]) [0, 1, 2, 3, 4, 5, 6, 7, 8, 9] rfl) (hD.sub (ws' := [(q5, .inr (5, [.ref q5bk, .ref q5nw, .ref q5to, .int th, .ref q5ne, .int si, .ref q5st, .int sn, .ref q5pd, .int re, .int ac, .int fa, .int fw, .ref q5cn, .ref q5ig, .ref q5ik])), (q5bk, .inl (cI, 15, .inl bk)), (q5nw, .inl (cI, 15, .inl nw)), (q5to, .inl (cI, 12, .inl to)), (q5ne, .inl (cI, 8, .inl ne)), (q5st, .inl (cI, 16, .inl st)), (q5pd, .inl (cI, 60, .inl pd)), (q5cn, .inl (cI, 3, .inl cn)), (q5ig, .inl (cI, 120, .inl ig)), (q5ik, .inl (cZ, 2, .inl ik))]) [0, 1, 2, 3, 4, 5, 6, 7, 8, 9] rfl rfl) rfl rfl rfl) rfl rfl hl.1 rfl (lv_room (Nat.le_of_ble_eq_true rfl)) dX5_quiet_91 ⟨Nat.zero_le _, Nat.zero_le _⟩) hP hD hS hA [0, 1, 2, 3, 4, 5, 6, 7, 8, 9] [] [0, 1, 2, 3, 4, 5, 6, 7, 8, 9] rfl rfl rfl (by decide) rfl rfl (fun H locs hP hD hS => ?_)
                  obtain ⟨r_19, hc_20, hs⟩ := ob1_e hs
                  refine kpi (va_runS (As := [.int r_17]) (rest := []) ⟨hx, hb, hml, hown, hts⟩ (k_X5_bits l r_17 r_19 hc_20) (va_cwS 1 hts (kGood (kgS mG_338 mG_339 mG_332 mG_328)) rfl rfl rfl hd_X5_bits ⟨Nat.le_of_ble_eq_true rfl, Nat.le_of_ble_eq_true rfl⟩) preEq rfl rfl hl.1 rfl (lv_room (Nat.le_of_ble_eq_true rfl)) dX5_quiet_94 ⟨Nat.zero_le _, Nat.zero_le _⟩) ?_
                  refine lv_iload_n hx hb dX5_quiet_97 rfl (lv_at hl 3 rfl) ?_
                  refine lv_icmp_gt (tgt := 106) hx hb dX5_quiet_98 (by decide) (fun c_21 => ?_) (fun c_21 => ?_)
                  · replace hs := if_p c_21 hs
                    refine lv_iload hx hb dX5_quiet_106 (lv_at hl 5 rfl) ?_
                    refine lv_istore (lv' := [(4, .int v4), (6, .int s80_0), (0, .ref q5), (1, .int v1), (2, .int v2), (3, .int v3), (5, .int v5)]) hx hb dX5_quiet_108 hl (by decide) rfl (fun ls hl => ?_)
                    refine lv_iinc (v := (v5 + 1)) (lv' := [(5, .int (v5 + 1)), (4, .int v4), (6, .int s80_0), (0, .ref q5), (1, .int v1), (2, .int v2), (3, .int v3)]) hx hb dX5_quiet_110 hl (k := 6) rfl rfl (by decide) rfl (fun ls hl => ?_)
                    refine lv_goto (tgt := 42) hx hb dX5_quiet_113 (by decide) ?_
                    exact ih_42 v4 (v5 + 1) _ _ _ hP hD hS (lv_sub hl [3, 4, 5, 6, 1, 0] rfl) hs
                  · replace hs := if_n c_21 hs
                    refine lv_iload hx hb dX5_quiet_101 (lv_at hl 6 rfl) ?_
                    refine lv_goto (tgt := 108) hx hb dX5_quiet_103 (by decide) ?_
                    refine lv_istore (lv' := [(4, .int v5), (6, .int s80_0), (0, .ref q5), (1, .int v1), (2, .int v2), (3, .int v3), (5, .int v5)]) hx hb dX5_quiet_108 hl (by decide) rfl (fun ls hl => ?_)
                    refine lv_iinc (v := (v5 + 1)) (lv' := [(5, .int (v5 + 1)), (4, .int v5), (6, .int s80_0), (0, .ref q5), (1, .int v1), (2, .int v2), (3, .int v3)]) hx hb dX5_quiet_110 hl (k := 6) rfl rfl (by decide) rfl (fun ls hl => ?_)
                    refine lv_goto (tgt := 42) hx hb dX5_quiet_113 (by decide) ?_
                    exact ih_42 v5 (v5 + 1) _ _ _ hP hD hS (lv_sub hl [3, 4, 5, 6, 1, 0] rfl) hs
              refine lv_if_ne (tgt := 79) hx hb dX5_quiet_54 (by decide) (fun c_9 => ?_) (fun c_9 => ?_)
              · replace hs := if_n c_9 hs
                refine lv_iconst (v := 0) hx hb dX5_quiet_79 (by decide) ?_
                exact hJ_80 v4 v5 (0 : Int32) _ _ _ hP hD hS (lv_sub hl [0, 1, 2, 3, 4, 5] rfl) hs
              · replace hs := if_p c_9 hs
                refine lv_iload hx hb dX5_quiet_57 (lv_at hl 4 rfl) ?_
                refine lv_if_lt (tgt := 75) hx hb dX5_quiet_59 (by decide) (fun c_10 => ?_) (fun c_10 => ?_)
                · replace hs := if_p c_10 hs
                  refine lv_iconst (v := 1) hx hb dX5_quiet_75 (by decide) ?_
                  refine lv_goto (tgt := 80) hx hb dX5_quiet_76 (by decide) ?_
                  exact hJ_80 v4 v5 (1 : Int32) _ _ _ hP hD hS (lv_sub hl [0, 1, 2, 3, 4, 5] rfl) hs
                · replace hs := if_n c_10 hs
                  refine lv_iload hx hb dX5_quiet_62 (lv_at hl 5 rfl) ?_
                  obtain ⟨r_11, hc_12, hs⟩ := ob1_e hs
                  refine kpi (va_runS (As := [.int v5]) (rest := []) ⟨hx, hb, hml, hown, hts⟩ (k_X5_bits l v5 r_11 hc_12) (va_cwS 1 hts (kGood (kgS mG_338 mG_339 mG_332 mG_328)) rfl rfl rfl hd_X5_bits ⟨Nat.le_of_ble_eq_true rfl, Nat.le_of_ble_eq_true rfl⟩) preEq rfl rfl hl.1 rfl (lv_room (Nat.le_of_ble_eq_true rfl)) dX5_quiet_64 ⟨Nat.zero_le _, Nat.zero_le _⟩) ?_
                  refine lv_iload hx hb dX5_quiet_67 (lv_at hl 4 rfl) ?_
                  obtain ⟨r_13, hc_14, hs⟩ := ob1_e hs
                  refine kpi (va_runS (As := [.int v4]) (rest := [.int r_11]) ⟨hx, hb, hml, hown, hts⟩ (k_X5_bits l v4 r_13 hc_14) (va_cwS 1 hts (kGood (kgS mG_338 mG_339 mG_332 mG_328)) rfl rfl rfl hd_X5_bits ⟨Nat.le_of_ble_eq_true rfl, Nat.le_of_ble_eq_true rfl⟩) preEq rfl rfl hl.1 rfl (lv_room (Nat.le_of_ble_eq_true rfl)) dX5_quiet_69 ⟨Nat.zero_le _, Nat.zero_le _⟩) ?_
                  refine lv_icmp_ge (tgt := 79) hx hb dX5_quiet_72 (by decide) (fun c_15 => ?_) (fun c_15 => ?_)
                  · replace hs := if_p c_15 hs
                    refine lv_iconst (v := 0) hx hb dX5_quiet_79 (by decide) ?_
                    exact hJ_80 v4 v5 (0 : Int32) _ _ _ hP hD hS (lv_sub hl [0, 1, 2, 3, 4, 5] rfl) hs
                  · replace hs := if_n c_15 hs
                    refine lv_iconst (v := 1) hx hb dX5_quiet_75 (by decide) ?_
                    refine lv_goto (tgt := 80) hx hb dX5_quiet_76 (by decide) ?_
                    exact hJ_80 v4 v5 (1 : Int32) _ _ _ hP hD hS (lv_sub hl [0, 1, 2, 3, 4, 5] rfl) hs
        exact hL_42 fu (-6 : Int32) (0 : Int32) _ _ _ hP hD hS (lv_sub hl [2, 3, 4, 5, 1, 0] rfl) hs
      · replace hs := if_p c_3 hs
        refine lv_bipush (v := -2) hx hb dX5_quiet_32 (by decide) ?_
        cases hs
        exact hret _ _ _ _ hP hD hS (vp_nar_int _) dX5_quiet_34
  · replace hs := if_p c_1 hs
    refine lv_iconst (v := -1) hx hb dX5_quiet_11 (by decide) ?_
    cases hs
    exact hret _ _ _ _ hP hD hS (vp_nar_int _) dX5_quiet_12
abbrev rm_X5_water : Room := { frames := 1, cells := 0, slots := 0, locals := 22 }
theorem hd_X5_water : yX5_water.cls ≠ "java/lang/invoke/MethodHandle" ∧ yX5_water.cls ≠ "java/lang/invoke/VarHandle" ∧ (parseMethodDescriptor yX5_water.desc).map (fun d => d.parameters.length) = some 4 := by decide +kernel
set_option maxHeartbeats 4000000 in
set_option maxRecDepth 100000 in
theorem k_X5_water (l : Launch) (dC : Nat → ClassId) (dI : Nat → Nat → Nat) (cI cZ cS : ClassId) (q5 q5bk q5nw q5to q5ne q5st q5pd q5cn q5ig q5ik : Nat) (sz : Nat) (th : Int32) (si : Int32) (sn : Int32) (re : Int32) (ac : Int32) (fa : Int32) (fw : Int32) (bk : Ar) (nw : Ar) (to : Ar) (ne : Ar) (st : Ar) (pd : Ar) (cn : Ar) (ig : Ar) (ik : Ar) (v1 : Int32) (v2 : Int32) (v3 : Int32) (v4 : Int32) (r0 : Int64) (hs : m_X5_water v1 v2 v3 v4 = some r0) : Met l yX5_water (.code yX5_water cX5_water 16 (some .long) :: kG) rm_X5_water (va_Pc [.ref q5, .int v1, .int v2, .int v3, .int v4] (kW (dC, dI) cI cZ cS [(q5, .inr (5, [.ref q5bk, .ref q5nw, .ref q5to, .int th, .ref q5ne, .int si, .ref q5st, .int sn, .ref q5pd, .int re, .int ac, .int fa, .int fw, .ref q5cn, .ref q5ig, .ref q5ik])), (q5bk, .inl (cI, 15, .inl bk)), (q5nw, .inl (cI, 15, .inl nw)), (q5to, .inl (cI, 12, .inl to)), (q5ne, .inl (cI, 8, .inl ne)), (q5st, .inl (cI, 16, .inl st)), (q5pd, .inl (cI, 60, .inl pd)), (q5cn, .inl (cI, 3, .inl cn)), (q5ig, .inl (cI, 120, .inl ig)), (q5ik, .inl (cZ, 2, .inl ik))] sz)) (kQl (dC, dI) [(q5, .inr (5, [.ref q5bk, .ref q5nw, .ref q5to, .int th, .ref q5ne, .int si, .ref q5st, .int sn, .ref q5pd, .int re, .int ac, .int fa, .int fw, .ref q5cn, .ref q5ig, .ref q5ik])), (q5bk, .inl (cI, 15, .inl bk)), (q5nw, .inl (cI, 15, .inl nw)), (q5to, .inl (cI, 12, .inl to)), (q5ne, .inl (cI, 8, .inl ne)), (q5st, .inl (cI, 16, .inl st)), (q5pd, .inl (cI, 60, .inl pd)), (q5cn, .inl (cI, 3, .inl cn)), (q5ig, .inl (cI, 120, .inl ig)), (q5ik, .inl (cZ, 2, .inl ik))] [(q5, .inr (5, [.ref q5bk, .ref q5nw, .ref q5to, .int th, .ref q5ne, .int si, .ref q5st, .int sn, .ref q5pd, .int re, .int ac, .int fa, .int fw, .ref q5cn, .ref q5ig, .ref q5ik])), (q5bk, .inl (cI, 15, .inl bk)), (q5nw, .inl (cI, 15, .inl nw)), (q5to, .inl (cI, 12, .inl to)), (q5ne, .inl (cI, 8, .inl ne)), (q5st, .inl (cI, 16, .inl st)), (q5pd, .inl (cI, 60, .inl pd)), (q5cn, .inl (cI, 3, .inl cn)), (q5ig, .inl (cI, 120, .inl ig)), (q5ik, .inl (cZ, 2, .inl ik))] sz r0) 0 0 (va_A [(q5, .inr (5, [.ref q5bk, .ref q5nw, .ref q5to, .int th, .ref q5ne, .int si, .ref q5st, .int sn, .ref q5pd, .int re, .int ac, .int fa, .int fw, .ref q5cn, .ref q5ig, .ref q5ik])), (q5bk, .inl (cI, 15, .inl bk)), (q5nw, .inl (cI, 15, .inl nw)), (q5to, .inl (cI, 12, .inl to)), (q5ne, .inl (cI, 8, .inl ne)), (q5st, .inl (cI, 16, .inl st)), (q5pd, .inl (cI, 60, .inl pd)), (q5cn, .inl (cI, 3, .inl cn)), (q5ig, .inl (cI, 120, .inl ig)), (q5ik, .inl (cZ, 2, .inl ik))] sz) := by
  refine kMl (own := RX5) rfl (by decide) rfl ?_ (Nat.le_of_ble_eq_true rfl)
  intro p e s m args below meth c Q A CF hK hN hA hP hD hret ls hl
  have hS : va_S A s.heap s.heap [] := va_S.rf
  obtain ⟨hx, hb, hml, hown, hts⟩ := id CF
  have hl : lv_has ls 16 [(0, .ref q5), (1, .int v1), (2, .int v2), (3, .int v3), (4, .int v4)] := hl
  unfold m_X5_water at hs
  refine lv_iload_n hx hb dX5_water_0 rfl (lv_at hl 1 rfl) ?_
  refine lv_iconst (v := 0) hx hb dX5_water_1 (by decide) ?_
  refine lv_bipush (v := 9) hx hb dX5_water_2 (by decide) ?_
  refine kpi (va_runS (As := [.int v1, .int (0 : Int32), .int (9 : Int32)]) (rest := []) ⟨hx, hb, hml, hown, hts⟩ (k_X5_in l v1 (0 : Int32) (9 : Int32) _ rfl) (va_cwS 3 hts (kGood (kgS mG_330 mG_331 mG_332 mG_326)) rfl rfl rfl hd_X5_in ⟨Nat.le_of_ble_eq_true rfl, Nat.le_of_ble_eq_true rfl⟩) preEq rfl rfl hl.1 rfl (lv_room (Nat.le_of_ble_eq_true rfl)) dX5_water_4 ⟨Nat.zero_le _, Nat.zero_le _⟩) ?_
  refine lv_if_eq (tgt := 39) hx hb dX5_water_7 (by decide) (fun c_1 => ?_) (fun c_1 => ?_)
  · replace hs := if_p c_1 hs
    refine lv_ldc2 (v := -1000000000000000002) hx hb hown (hts _ (kg1 mG_429)) dX5_water_39 ?_
    cases hs
    exact hret _ _ _ _ hP hD hS dX5_water_42
  · replace hs := if_n c_1 hs
    refine lv_iload_n hx hb dX5_water_10 rfl (lv_at hl 2 rfl) ?_
    refine lv_iconst (v := 0) hx hb dX5_water_11 (by decide) ?_
    refine lv_bipush (v := 10) hx hb dX5_water_12 (by decide) ?_
    refine kpi (va_runS (As := [.int v2, .int (0 : Int32), .int (10 : Int32)]) (rest := []) ⟨hx, hb, hml, hown, hts⟩ (k_X5_in l v2 (0 : Int32) (10 : Int32) _ rfl) (va_cwS 3 hts (kGood (kgS mG_330 mG_331 mG_332 mG_326)) rfl rfl rfl hd_X5_in ⟨Nat.le_of_ble_eq_true rfl, Nat.le_of_ble_eq_true rfl⟩) preEq rfl rfl hl.1 rfl (lv_room (Nat.le_of_ble_eq_true rfl)) dX5_water_14 ⟨Nat.zero_le _, Nat.zero_le _⟩) ?_
    refine lv_if_eq (tgt := 39) hx hb dX5_water_17 (by decide) (fun c_2 => ?_) (fun c_2 => ?_)
    · replace hs := if_p c_2 hs
      refine lv_ldc2 (v := -1000000000000000002) hx hb hown (hts _ (kg1 mG_429)) dX5_water_39 ?_
      cases hs
      exact hret _ _ _ _ hP hD hS dX5_water_42
    · replace hs := if_n c_2 hs
      refine lv_iload_n hx hb dX5_water_20 rfl (lv_at hl 3 rfl) ?_
      refine lv_iconst (v := 0) hx hb dX5_water_21 (by decide) ?_
      refine lv_iconst (v := 1) hx hb dX5_water_22 (by decide) ?_
      refine kpi (va_runS (As := [.int v3, .int (0 : Int32), .int (1 : Int32)]) (rest := []) ⟨hx, hb, hml, hown, hts⟩ (k_X5_in l v3 (0 : Int32) (1 : Int32) _ rfl) (va_cwS 3 hts (kGood (kgS mG_330 mG_331 mG_332 mG_326)) rfl rfl rfl hd_X5_in ⟨Nat.le_of_ble_eq_true rfl, Nat.le_of_ble_eq_true rfl⟩) preEq rfl rfl hl.1 rfl (lv_room (Nat.le_of_ble_eq_true rfl)) dX5_water_23 ⟨Nat.zero_le _, Nat.zero_le _⟩) ?_
      refine lv_if_eq (tgt := 39) hx hb dX5_water_26 (by decide) (fun c_3 => ?_) (fun c_3 => ?_)
      · replace hs := if_p c_3 hs
        refine lv_ldc2 (v := -1000000000000000002) hx hb hown (hts _ (kg1 mG_429)) dX5_water_39 ?_
        cases hs
        exact hret _ _ _ _ hP hD hS dX5_water_42
      · replace hs := if_n c_3 hs
        refine lv_iload hx hb dX5_water_29 (lv_at hl 4 rfl) ?_
        refine lv_iconst (v := 0) hx hb dX5_water_31 (by decide) ?_
        refine lv_iconst (v := 1) hx hb dX5_water_32 (by decide) ?_
        refine kpi (va_runS (As := [.int v4, .int (0 : Int32), .int (1 : Int32)]) (rest := []) ⟨hx, hb, hml, hown, hts⟩ (k_X5_in l v4 (0 : Int32) (1 : Int32) _ rfl) (va_cwS 3 hts (kGood (kgS mG_330 mG_331 mG_332 mG_326)) rfl rfl rfl hd_X5_in ⟨Nat.le_of_ble_eq_true rfl, Nat.le_of_ble_eq_true rfl⟩) preEq rfl rfl hl.1 rfl (lv_room (Nat.le_of_ble_eq_true rfl)) dX5_water_33 ⟨Nat.zero_le _, Nat.zero_le _⟩) ?_
        refine lv_if_ne (tgt := 43) hx hb dX5_water_36 (by decide) (fun c_4 => ?_) (fun c_4 => ?_)
        · replace hs := if_n c_4 hs
          refine lv_lconst (v := 0) hx hb dX5_water_43 (by decide) ?_
          refine lv_lstore (lv' := [(5, .long (0 : Int64)), (0, .ref q5), (1, .int v1), (2, .int v2), (3, .int v3), (4, .int v4)]) hx hb dX5_water_44 hl (by decide) rfl (fun ls hl => ?_)
          refine lv_lconst (v := 1) hx hb dX5_water_46 (by decide) ?_
          refine lv_lstore (lv' := [(7, .long (1 : Int64)), (5, .long (0 : Int64)), (0, .ref q5), (1, .int v1), (2, .int v2), (3, .int v3), (4, .int v4)]) hx hb dX5_water_47 hl (by decide) rfl (fun ls hl => ?_)
          refine lv_iconst (v := 1) hx hb dX5_water_49 (by decide) ?_
          refine lv_istore (lv' := [(9, .int (1 : Int32)), (7, .long (1 : Int64)), (5, .long (0 : Int64)), (0, .ref q5), (1, .int v1), (2, .int v2), (3, .int v3), (4, .int v4)]) hx hb dX5_water_50 hl (by decide) rfl (fun ls hl => ?_)
          refine lv_iconst (v := 1) hx hb dX5_water_52 (by decide) ?_
          refine lv_istore (lv' := [(10, .int (1 : Int32)), (9, .int (1 : Int32)), (7, .long (1 : Int64)), (5, .long (0 : Int64)), (0, .ref q5), (1, .int v1), (2, .int v2), (3, .int v3), (4, .int v4)]) hx hb dX5_water_53 hl (by decide) rfl (fun ls hl => ?_)
          have hL_55 : ∀ (n : Nat) (u5 : Int64) (u7 : Int64) (v9 : Int32) (v10 : Int32) (H : Heap) (locs : List Loc) (ls : Array Slot), va_P (dC, dI) vwCl [(q5, .inr (5, [.ref q5bk, .ref q5nw, .ref q5to, .int th, .ref q5ne, .int si, .ref q5st, .int sn, .ref q5pd, .int re, .int ac, .int fa, .int fw, .ref q5cn, .ref q5ig, .ref q5ik])), (q5bk, .inl (cI, 15, .inl bk)), (q5nw, .inl (cI, 15, .inl nw)), (q5to, .inl (cI, 12, .inl to)), (q5ne, .inl (cI, 8, .inl ne)), (q5st, .inl (cI, 16, .inl st)), (q5pd, .inl (cI, 60, .inl pd)), (q5cn, .inl (cI, 3, .inl cn)), (q5ig, .inl (cI, 120, .inl ig)), (q5ik, .inl (cZ, 2, .inl ik))] H → va_D A [(q5, .inr (5, [.ref q5bk, .ref q5nw, .ref q5to, .int th, .ref q5ne, .int si, .ref q5st, .int sn, .ref q5pd, .int re, .int ac, .int fa, .int fw, .ref q5cn, .ref q5ig, .ref q5ik])), (q5bk, .inl (cI, 15, .inl bk)), (q5nw, .inl (cI, 15, .inl nw)), (q5to, .inl (cI, 12, .inl to)), (q5ne, .inl (cI, 8, .inl ne)), (q5st, .inl (cI, 16, .inl st)), (q5pd, .inl (cI, 60, .inl pd)), (q5cn, .inl (cI, 3, .inl cn)), (q5ig, .inl (cI, 120, .inl ig)), (q5ik, .inl (cZ, 2, .inl ik))] → va_S A s.heap H locs → lv_has ls 16 [(0, .ref q5), (1, .int v1), (2, .int v2), (3, .int v3), (4, .int v4), (5, .long u5), (7, .long u7), (9, .int v9), (10, .int v10)] → L_X5_water_55 v1 v2 v3 v4 n u5 u7 v9 v10 = some r0 → W p l e rm_X5_water s m args below meth c H locs 0 0 Q (F0 m 55 ls []) := by
            intro n
            induction n with
            | zero =>
              intro u5 u7 v9 v10 H locs ls hP hD hS hl hs
              replace hs : (none : Option (Int64)) = some r0 := hs
              cases hs
            | succ n_55 ih_55 =>
              intro u5 u7 v9 v10 H locs ls hP hD hS hl hs
              replace hs : b_X5_water_55  (L_X5_water_55 v1 v2 v3 v4 n_55) v1 v2 v3 v4 u5 u7 v9 v10 = some r0 := hs
              unfold b_X5_water_55 at hs
              refine lv_iload hx hb dX5_water_55 (lv_at hl 8 rfl) ?_
              refine lv_iload_n hx hb dX5_water_57 rfl (lv_at hl 1 rfl) ?_
              refine lv_icmp_gt (tgt := 137) hx hb dX5_water_58 (by decide) (fun c_5 => ?_) (fun c_5 => ?_)
              · replace hs := if_p c_5 hs
                refine lv_iload_n hx hb dX5_water_137 rfl (lv_at hl 3 rfl) ?_
                refine lv_iconst (v := 1) hx hb dX5_water_138 (by decide) ?_
                refine lv_icmp_ne (tgt := 153) hx hb dX5_water_139 (by decide) (fun c_6 => ?_) (fun c_6 => ?_)
                · replace hs := if_n c_6 hs
                  refine lv_lload hx hb dX5_water_153 (lv_at hl 5 rfl) ?_
                  refine lv_lstore (lv' := [(10, .long u5), (0, .ref q5), (1, .int v1), (2, .int v2), (3, .int v3), (4, .int v4), (5, .long u5), (7, .long u7), (9, .int v9)]) hx hb dX5_water_155 hl (by decide) rfl (fun ls hl => ?_)
                  refine lv_lload hx hb dX5_water_157 (lv_at hl 7 rfl) ?_
                  refine lv_lstore (lv' := [(12, .long u7), (10, .long u5), (0, .ref q5), (1, .int v1), (2, .int v2), (3, .int v3), (4, .int v4), (5, .long u5), (7, .long u7), (9, .int v9)]) hx hb dX5_water_159 hl (by decide) rfl (fun ls hl => ?_)
                  have hL_161 : ∀ (n : Nat) (u5 : Int64) (u7 : Int64) (u10 : Int64) (u12 : Int64) (H : Heap) (locs : List Loc) (ls : Array Slot), va_P (dC, dI) vwCl [(q5, .inr (5, [.ref q5bk, .ref q5nw, .ref q5to, .int th, .ref q5ne, .int si, .ref q5st, .int sn, .ref q5pd, .int re, .int ac, .int fa, .int fw, .ref q5cn, .ref q5ig, .ref q5ik])), (q5bk, .inl (cI, 15, .inl bk)), (q5nw, .inl (cI, 15, .inl nw)), (q5to, .inl (cI, 12, .inl to)), (q5ne, .inl (cI, 8, .inl ne)), (q5st, .inl (cI, 16, .inl st)), (q5pd, .inl (cI, 60, .inl pd)), (q5cn, .inl (cI, 3, .inl cn)), (q5ig, .inl (cI, 120, .inl ig)), (q5ik, .inl (cZ, 2, .inl ik))] H → va_D A [(q5, .inr (5, [.ref q5bk, .ref q5nw, .ref q5to, .int th, .ref q5ne, .int si, .ref q5st, .int sn, .ref q5pd, .int re, .int ac, .int fa, .int fw, .ref q5cn, .ref q5ig, .ref q5ik])), (q5bk, .inl (cI, 15, .inl bk)), (q5nw, .inl (cI, 15, .inl nw)), (q5to, .inl (cI, 12, .inl to)), (q5ne, .inl (cI, 8, .inl ne)), (q5st, .inl (cI, 16, .inl st)), (q5pd, .inl (cI, 60, .inl pd)), (q5cn, .inl (cI, 3, .inl cn)), (q5ig, .inl (cI, 120, .inl ig)), (q5ik, .inl (cZ, 2, .inl ik))] → va_S A s.heap H locs → lv_has ls 16 [(0, .ref q5), (4, .int v4), (5, .long u5), (7, .long u7), (10, .long u10), (12, .long u12)] → L_X5_water_161 v4 u5 u7 n u10 u12 = some r0 → W p l e rm_X5_water s m args below meth c H locs 0 0 Q (F0 m 161 ls []) := by
                    intro n
                    induction n with
                    | zero =>
                      intro u5 u7 u10 u12 H locs ls hP hD hS hl hs
                      replace hs : (none : Option (Int64)) = some r0 := hs
                      cases hs
                    | succ n_161 ih_161 =>
                      intro u5 u7 u10 u12 H locs ls hP hD hS hl hs
                      replace hs : b_X5_water_161  (L_X5_water_161 v4 u5 u7 n_161) v4 u5 u7 u10 u12 = some r0 := hs
                      unfold b_X5_water_161 at hs
                      refine lv_lload hx hb dX5_water_161 (lv_at hl 5 rfl) ?_
                      refine lv_lconst (v := 0) hx hb dX5_water_163 (by decide) ?_
                      refine W.lcmp hx hb dX5_water_164 ?_
                      refine lv_if_eq (tgt := 186) hx hb dX5_water_165 (by decide) (fun c_10 => ?_) (fun c_10 => ?_)
                      · replace hs := if_p c_10 hs
                        refine lv_iload hx hb dX5_water_186 (lv_at hl 1 rfl) ?_
                        refine lv_if_ne (tgt := 199) hx hb dX5_water_188 (by decide) (fun c_11 => ?_) (fun c_11 => ?_)
                        · replace hs := if_n c_11 hs
                          refine lv_lload hx hb dX5_water_199 (lv_at hl 3 rfl) ?_
                          refine lv_lload hx hb dX5_water_201 (lv_at hl 4 rfl) ?_
                          obtain ⟨hg_12, hs⟩ := gd_e hs
                          refine lv_ldiv hx hb dX5_water_203 (nzl_e hg_12) ?_
                          cases hs
                          exact hret _ _ _ _ hP hD hS dX5_water_204
                        · replace hs := if_p c_11 hs
                          refine lv_lload hx hb dX5_water_191 (lv_at hl 2 rfl) ?_
                          refine lv_lload hx hb dX5_water_193 (lv_at hl 4 rfl) ?_
                          obtain ⟨hg_13, hs⟩ := gd_e hs
                          refine lv_ldiv hx hb dX5_water_195 (nzl_e hg_13) ?_
                          refine lv_goto (tgt := 204) hx hb dX5_water_196 (by decide) ?_
                          cases hs
                          exact hret _ _ _ _ hP hD hS dX5_water_204
                      · replace hs := if_n c_10 hs
                        refine lv_lload hx hb dX5_water_168 (lv_at hl 4 rfl) ?_
                        refine lv_lload hx hb dX5_water_170 (lv_at hl 5 rfl) ?_
                        obtain ⟨hg_14, hs⟩ := gd_e hs
                        refine lv_lrem hx hb dX5_water_172 (nzl_e hg_14) ?_
                        refine lv_lstore (lv' := [(14, .long (lrem u10 u12)), (0, .ref q5), (4, .int v4), (5, .long u5), (7, .long u7), (10, .long u10), (12, .long u12)]) hx hb dX5_water_173 hl (by decide) rfl (fun ls hl => ?_)
                        refine lv_lload hx hb dX5_water_175 (lv_at hl 6 rfl) ?_
                        refine lv_lstore (lv' := [(10, .long u12), (14, .long (lrem u10 u12)), (0, .ref q5), (4, .int v4), (5, .long u5), (7, .long u7), (12, .long u12)]) hx hb dX5_water_177 hl (by decide) rfl (fun ls hl => ?_)
                        refine lv_lload hx hb dX5_water_179 (lv_at hl 1 rfl) ?_
                        refine lv_lstore (lv' := [(12, .long (lrem u10 u12)), (10, .long u12), (14, .long (lrem u10 u12)), (0, .ref q5), (4, .int v4), (5, .long u5), (7, .long u7)]) hx hb dX5_water_181 hl (by decide) rfl (fun ls hl => ?_)
                        refine lv_goto (tgt := 161) hx hb dX5_water_183 (by decide) ?_
                        exact ih_161 u5 u7 u12 (lrem u10 u12) _ _ _ hP hD hS (lv_sub hl [3, 4, 5, 6, 1, 0] rfl) hs
                  exact hL_161 fu u5 u7 u5 u7 _ _ _ hP hD hS (lv_sub hl [2, 6, 7, 8, 1, 0] rfl) hs
                · replace hs := if_p c_6 hs
                  refine lv_iload hx hb dX5_water_142 (lv_at hl 7 rfl) ?_
                  refine lv_if_eq (tgt := 151) hx hb dX5_water_144 (by decide) (fun c_7 => ?_) (fun c_7 => ?_)
                  · replace hs := if_p c_7 hs
                    refine lv_lconst (v := 0) hx hb dX5_water_151 (by decide) ?_
                    cases hs
                    exact hret _ _ _ _ hP hD hS dX5_water_152
                  · replace hs := if_n c_7 hs
                    refine lv_lconst (v := 1) hx hb dX5_water_147 (by decide) ?_
                    refine lv_goto (tgt := 152) hx hb dX5_water_148 (by decide) ?_
                    cases hs
                    exact hret _ _ _ _ hP hD hS dX5_water_152
              · replace hs := if_n c_5 hs
                refine lv_ldc2 (v := 100) hx hb hown (hts _ (kg1 mG_430)) dX5_water_61 ?_
                refine lv_lload hx hb dX5_water_64 (lv_at hl 6 rfl) ?_
                refine lv_lmul hx hb dX5_water_66 ?_
                refine lv_iload_n hx hb dX5_water_67 rfl (lv_at hl 2 rfl) ?_
                refine lv_i2l hx hb dX5_water_68 rfl ?_
                refine lv_lmul hx hb dX5_water_69 ?_
                refine lv_ldc2 (v := 10) hx hb hown (hts _ (kg1 mG_431)) dX5_water_70 ?_
                refine lv_iload_n hx hb dX5_water_73 rfl (lv_at hl 2 rfl) ?_
                refine lv_i2l hx hb dX5_water_74 rfl ?_
                refine lv_lsub hx hb dX5_water_75 ?_
                refine lv_lload hx hb dX5_water_76 (lv_at hl 5 rfl) ?_
                refine lv_lmul hx hb dX5_water_78 ?_
                refine lv_ladd hx hb dX5_water_79 ?_
                refine lv_topl (fun w_8 ew_8 => ?_)
                replace hs := bnd_e ew_8 hs
                refine lv_lstore (lv' := [(11, .long w_8), (0, .ref q5), (1, .int v1), (2, .int v2), (3, .int v3), (4, .int v4), (5, .long u5), (7, .long u7), (9, .int v9), (10, .int v10)]) hx hb dX5_water_80 hl (by decide) rfl (fun ls hl => ?_)
                refine lv_lload hx hb dX5_water_82 (lv_at hl 7 rfl) ?_
                refine lv_ldc2 (v := 10) hx hb hown (hts _ (kg1 mG_431)) dX5_water_84 ?_
                refine lv_lmul hx hb dX5_water_87 ?_
                refine lv_lstore (lv' := [(7, .long (u7 * (10 : Int64))), (11, .long w_8), (0, .ref q5), (1, .int v1), (2, .int v2), (3, .int v3), (4, .int v4), (5, .long u5), (9, .int v9), (10, .int v10)]) hx hb dX5_water_88 hl (by decide) rfl (fun ls hl => ?_)
                refine lv_ldc2 (v := 10) hx hb hown (hts _ (kg1 mG_431)) dX5_water_90 ?_
                refine lv_iload hx hb dX5_water_93 (lv_at hl 9 rfl) ?_
                refine lv_i2l hx hb dX5_water_95 rfl ?_
                refine lv_lmul hx hb dX5_water_96 ?_
                refine lv_lload hx hb dX5_water_97 (lv_at hl 0 rfl) ?_
                refine lv_lmul hx hb dX5_water_99 ?_
                refine lv_lstore (lv' := [(13, .long (((10 : Int64) * (Int32.toInt64 v10)) * (u7 * (10 : Int64)))), (7, .long (u7 * (10 : Int64))), (11, .long w_8), (0, .ref q5), (1, .int v1), (2, .int v2), (3, .int v3), (4, .int v4), (5, .long u5), (9, .int v9), (10, .int v10)]) hx hb dX5_water_100 hl (by decide) rfl (fun ls hl => ?_)
                refine lv_lload hx hb dX5_water_102 (lv_at hl 0 rfl) ?_
                refine lv_lload hx hb dX5_water_104 (lv_at hl 2 rfl) ?_
                refine W.lcmp hx hb dX5_water_106 ?_
                have hJ_115 : ∀ (u7 : Int64) (v10 : Int32) (u11 : Int64) (u13 : Int64) (s115_0 : Int32) (H : Heap) (locs : List Loc) (ls : Array Slot), va_P (dC, dI) vwCl [(q5, .inr (5, [.ref q5bk, .ref q5nw, .ref q5to, .int th, .ref q5ne, .int si, .ref q5st, .int sn, .ref q5pd, .int re, .int ac, .int fa, .int fw, .ref q5cn, .ref q5ig, .ref q5ik])), (q5bk, .inl (cI, 15, .inl bk)), (q5nw, .inl (cI, 15, .inl nw)), (q5to, .inl (cI, 12, .inl to)), (q5ne, .inl (cI, 8, .inl ne)), (q5st, .inl (cI, 16, .inl st)), (q5pd, .inl (cI, 60, .inl pd)), (q5cn, .inl (cI, 3, .inl cn)), (q5ig, .inl (cI, 120, .inl ig)), (q5ik, .inl (cZ, 2, .inl ik))] H → va_D A [(q5, .inr (5, [.ref q5bk, .ref q5nw, .ref q5to, .int th, .ref q5ne, .int si, .ref q5st, .int sn, .ref q5pd, .int re, .int ac, .int fa, .int fw, .ref q5cn, .ref q5ig, .ref q5ik])), (q5bk, .inl (cI, 15, .inl bk)), (q5nw, .inl (cI, 15, .inl nw)), (q5to, .inl (cI, 12, .inl to)), (q5ne, .inl (cI, 8, .inl ne)), (q5st, .inl (cI, 16, .inl st)), (q5pd, .inl (cI, 60, .inl pd)), (q5cn, .inl (cI, 3, .inl cn)), (q5ig, .inl (cI, 120, .inl ig)), (q5ik, .inl (cZ, 2, .inl ik))] → va_S A s.heap H locs → lv_has ls 16 [(0, .ref q5), (1, .int v1), (2, .int v2), (3, .int v3), (4, .int v4), (7, .long u7), (10, .int v10), (11, .long u11), (13, .long u13)] → j_X5_water_115 (L_X5_water_55 v1 v2 v3 v4 n_55) u7 v10 u11 u13 s115_0 = some r0 → W p l e rm_X5_water s m args below meth c H locs 0 0 Q (F0 m 115 ls [.int s115_0]) := by
                  intro u7 v10 u11 u13 s115_0 H locs ls hP hD hS hl hs
                  unfold j_X5_water_115 at hs
                  refine lv_istore (lv' := [(9, .int s115_0), (0, .ref q5), (1, .int v1), (2, .int v2), (3, .int v3), (4, .int v4), (7, .long u7), (10, .int v10), (11, .long u11), (13, .long u13)]) hx hb dX5_water_115 hl (by decide) rfl (fun ls hl => ?_)
                  refine lv_iload hx hb dX5_water_117 (lv_at hl 0 rfl) ?_
                  refine lv_if_eq (tgt := 127) hx hb dX5_water_119 (by decide) (fun c_15 => ?_) (fun c_15 => ?_)
                  · replace hs := if_p c_15 hs
                    refine lv_lload hx hb dX5_water_127 (lv_at hl 8 rfl) ?_
                    refine lv_lstore (lv' := [(5, .long u11), (9, .int s115_0), (0, .ref q5), (1, .int v1), (2, .int v2), (3, .int v3), (4, .int v4), (7, .long u7), (10, .int v10), (11, .long u11), (13, .long u13)]) hx hb dX5_water_129 hl (by decide) rfl (fun ls hl => ?_)
                    refine lv_iinc (v := (v10 + 1)) (lv' := [(10, .int (v10 + 1)), (5, .long u11), (9, .int s115_0), (0, .ref q5), (1, .int v1), (2, .int v2), (3, .int v3), (4, .int v4), (7, .long u7), (11, .long u11), (13, .long u13)]) hx hb dX5_water_131 hl (k := 8) rfl rfl (by decide) rfl (fun ls hl => ?_)
                    refine lv_goto (tgt := 55) hx hb dX5_water_134 (by decide) ?_
                    exact ih_55 u11 u7 s115_0 (v10 + 1) _ _ _ hP hD hS (lv_sub hl [3, 4, 5, 6, 7, 1, 8, 2, 0] rfl) hs
                  · replace hs := if_n c_15 hs
                    refine lv_lload hx hb dX5_water_122 (lv_at hl 9 rfl) ?_
                    refine lv_goto (tgt := 129) hx hb dX5_water_124 (by decide) ?_
                    refine lv_lstore (lv' := [(5, .long u13), (9, .int s115_0), (0, .ref q5), (1, .int v1), (2, .int v2), (3, .int v3), (4, .int v4), (7, .long u7), (10, .int v10), (11, .long u11), (13, .long u13)]) hx hb dX5_water_129 hl (by decide) rfl (fun ls hl => ?_)
                    refine lv_iinc (v := (v10 + 1)) (lv' := [(10, .int (v10 + 1)), (5, .long u13), (9, .int s115_0), (0, .ref q5), (1, .int v1), (2, .int v2), (3, .int v3), (4, .int v4), (7, .long u7), (11, .long u11), (13, .long u13)]) hx hb dX5_water_131 hl (k := 8) rfl rfl (by decide) rfl (fun ls hl => ?_)
                    refine lv_goto (tgt := 55) hx hb dX5_water_134 (by decide) ?_
                    exact ih_55 u13 u7 s115_0 (v10 + 1) _ _ _ hP hD hS (lv_sub hl [3, 4, 5, 6, 7, 1, 8, 2, 0] rfl) hs
                refine lv_if_lt (tgt := 114) hx hb dX5_water_107 (by decide) (fun c_9 => ?_) (fun c_9 => ?_)
                · replace hs := if_p c_9 hs
                  refine lv_iconst (v := 0) hx hb dX5_water_114 (by decide) ?_
                  exact hJ_115 (u7 * (10 : Int64)) v10 w_8 (((10 : Int64) * (Int32.toInt64 v10)) * (u7 * (10 : Int64))) (0 : Int32) _ _ _ hP hD hS (lv_sub hl [3, 4, 5, 6, 7, 1, 10, 2, 0] rfl) hs
                · replace hs := if_n c_9 hs
                  refine lv_iconst (v := 1) hx hb dX5_water_110 (by decide) ?_
                  refine lv_goto (tgt := 115) hx hb dX5_water_111 (by decide) ?_
                  exact hJ_115 (u7 * (10 : Int64)) v10 w_8 (((10 : Int64) * (Int32.toInt64 v10)) * (u7 * (10 : Int64))) (1 : Int32) _ _ _ hP hD hS (lv_sub hl [3, 4, 5, 6, 7, 1, 10, 2, 0] rfl) hs
          exact hL_55 fu (0 : Int64) (1 : Int64) (1 : Int32) (1 : Int32) _ _ _ hP hD hS (lv_sub hl [4, 5, 6, 7, 8, 3, 2, 1, 0] rfl) hs
        · replace hs := if_p c_4 hs
          refine lv_ldc2 (v := -1000000000000000002) hx hb hown (hts _ (kg1 mG_429)) dX5_water_39 ?_
          cases hs
          exact hret _ _ _ _ hP hD hS dX5_water_42
abbrev rm_X5_lots : Room := { frames := 1, cells := 0, slots := 0, locals := 22 }
theorem hd_X5_lots : yX5_lots.cls ≠ "java/lang/invoke/MethodHandle" ∧ yX5_lots.cls ≠ "java/lang/invoke/VarHandle" ∧ (parseMethodDescriptor yX5_lots.desc).map (fun d => d.parameters.length) = some 4 := by decide +kernel
set_option maxHeartbeats 4000000 in
set_option maxRecDepth 100000 in
theorem k_X5_lots (l : Launch) (dC : Nat → ClassId) (dI : Nat → Nat → Nat) (cI cZ cS : ClassId) (q5 q5bk q5nw q5to q5ne q5st q5pd q5cn q5ig q5ik : Nat) (sz : Nat) (th : Int32) (si : Int32) (sn : Int32) (re : Int32) (ac : Int32) (fa : Int32) (fw : Int32) (bk : Ar) (nw : Ar) (to : Ar) (ne : Ar) (st : Ar) (pd : Ar) (cn : Ar) (ig : Ar) (ik : Ar) (v1 : Int32) (v2 : Int32) (v3 : Int32) (v4 : Int32) (r0 : Int32) (hs : m_X5_lots v1 v2 v3 v4 = some r0) : Met l yX5_lots (.code yX5_lots cX5_lots 5 (some .int) :: kG) rm_X5_lots (va_Pc [.ref q5, .int v1, .int v2, .int v3, .int v4] (kW (dC, dI) cI cZ cS [(q5, .inr (5, [.ref q5bk, .ref q5nw, .ref q5to, .int th, .ref q5ne, .int si, .ref q5st, .int sn, .ref q5pd, .int re, .int ac, .int fa, .int fw, .ref q5cn, .ref q5ig, .ref q5ik])), (q5bk, .inl (cI, 15, .inl bk)), (q5nw, .inl (cI, 15, .inl nw)), (q5to, .inl (cI, 12, .inl to)), (q5ne, .inl (cI, 8, .inl ne)), (q5st, .inl (cI, 16, .inl st)), (q5pd, .inl (cI, 60, .inl pd)), (q5cn, .inl (cI, 3, .inl cn)), (q5ig, .inl (cI, 120, .inl ig)), (q5ik, .inl (cZ, 2, .inl ik))] sz)) (kQi (dC, dI) [(q5, .inr (5, [.ref q5bk, .ref q5nw, .ref q5to, .int th, .ref q5ne, .int si, .ref q5st, .int sn, .ref q5pd, .int re, .int ac, .int fa, .int fw, .ref q5cn, .ref q5ig, .ref q5ik])), (q5bk, .inl (cI, 15, .inl bk)), (q5nw, .inl (cI, 15, .inl nw)), (q5to, .inl (cI, 12, .inl to)), (q5ne, .inl (cI, 8, .inl ne)), (q5st, .inl (cI, 16, .inl st)), (q5pd, .inl (cI, 60, .inl pd)), (q5cn, .inl (cI, 3, .inl cn)), (q5ig, .inl (cI, 120, .inl ig)), (q5ik, .inl (cZ, 2, .inl ik))] [(q5, .inr (5, [.ref q5bk, .ref q5nw, .ref q5to, .int th, .ref q5ne, .int si, .ref q5st, .int sn, .ref q5pd, .int re, .int ac, .int fa, .int fw, .ref q5cn, .ref q5ig, .ref q5ik])), (q5bk, .inl (cI, 15, .inl bk)), (q5nw, .inl (cI, 15, .inl nw)), (q5to, .inl (cI, 12, .inl to)), (q5ne, .inl (cI, 8, .inl ne)), (q5st, .inl (cI, 16, .inl st)), (q5pd, .inl (cI, 60, .inl pd)), (q5cn, .inl (cI, 3, .inl cn)), (q5ig, .inl (cI, 120, .inl ig)), (q5ik, .inl (cZ, 2, .inl ik))] sz r0) 0 0 (va_A [(q5, .inr (5, [.ref q5bk, .ref q5nw, .ref q5to, .int th, .ref q5ne, .int si, .ref q5st, .int sn, .ref q5pd, .int re, .int ac, .int fa, .int fw, .ref q5cn, .ref q5ig, .ref q5ik])), (q5bk, .inl (cI, 15, .inl bk)), (q5nw, .inl (cI, 15, .inl nw)), (q5to, .inl (cI, 12, .inl to)), (q5ne, .inl (cI, 8, .inl ne)), (q5st, .inl (cI, 16, .inl st)), (q5pd, .inl (cI, 60, .inl pd)), (q5cn, .inl (cI, 3, .inl cn)), (q5ig, .inl (cI, 120, .inl ig)), (q5ik, .inl (cZ, 2, .inl ik))] sz) := by
  refine kMi (own := RX5) (ty := .int) rfl (by decide) rfl ?_ (Nat.le_of_ble_eq_true rfl)
  intro p e s m args below meth c Q A CF hK hN hA hP hD hret ls hl
  have hS : va_S A s.heap s.heap [] := va_S.rf
  obtain ⟨hx, hb, hml, hown, hts⟩ := id CF
  have hl : lv_has ls 5 [(0, .ref q5), (1, .int v1), (2, .int v2), (3, .int v3), (4, .int v4)] := hl
  unfold m_X5_lots at hs
  refine lv_iload_n hx hb dX5_lots_0 rfl (lv_at hl 1 rfl) ?_
  refine lv_iconst (v := 1) hx hb dX5_lots_1 (by decide) ?_
  refine lv_bipush (v := 20) hx hb dX5_lots_2 (by decide) ?_
  refine kpi (va_runS (As := [.int v1, .int (1 : Int32), .int (20 : Int32)]) (rest := []) ⟨hx, hb, hml, hown, hts⟩ (k_X5_in l v1 (1 : Int32) (20 : Int32) _ rfl) (va_cwS 3 hts (kGood (kgS mG_330 mG_331 mG_332 mG_326)) rfl rfl rfl hd_X5_in ⟨Nat.le_of_ble_eq_true rfl, Nat.le_of_ble_eq_true rfl⟩) preEq rfl rfl hl.1 rfl (lv_room (Nat.le_of_ble_eq_true rfl)) dX5_lots_4 ⟨Nat.zero_le _, Nat.zero_le _⟩) ?_
  refine lv_if_eq (tgt := 40) hx hb dX5_lots_7 (by decide) (fun c_1 => ?_) (fun c_1 => ?_)
  · replace hs := if_p c_1 hs
    refine lv_bipush (v := -2) hx hb dX5_lots_40 (by decide) ?_
    cases hs
    exact hret _ _ _ _ hP hD hS (vp_nar_int _) dX5_lots_42
  · replace hs := if_n c_1 hs
    refine lv_iload_n hx hb dX5_lots_10 rfl (lv_at hl 2 rfl) ?_
    refine lv_iconst (v := 1) hx hb dX5_lots_11 (by decide) ?_
    refine lv_bipush (v := 20) hx hb dX5_lots_12 (by decide) ?_
    refine kpi (va_runS (As := [.int v2, .int (1 : Int32), .int (20 : Int32)]) (rest := []) ⟨hx, hb, hml, hown, hts⟩ (k_X5_in l v2 (1 : Int32) (20 : Int32) _ rfl) (va_cwS 3 hts (kGood (kgS mG_330 mG_331 mG_332 mG_326)) rfl rfl rfl hd_X5_in ⟨Nat.le_of_ble_eq_true rfl, Nat.le_of_ble_eq_true rfl⟩) preEq rfl rfl hl.1 rfl (lv_room (Nat.le_of_ble_eq_true rfl)) dX5_lots_14 ⟨Nat.zero_le _, Nat.zero_le _⟩) ?_
    refine lv_if_eq (tgt := 40) hx hb dX5_lots_17 (by decide) (fun c_2 => ?_) (fun c_2 => ?_)
    · replace hs := if_p c_2 hs
      refine lv_bipush (v := -2) hx hb dX5_lots_40 (by decide) ?_
      cases hs
      exact hret _ _ _ _ hP hD hS (vp_nar_int _) dX5_lots_42
    · replace hs := if_n c_2 hs
      refine lv_iload_n hx hb dX5_lots_20 rfl (lv_at hl 3 rfl) ?_
      refine lv_iconst (v := 1) hx hb dX5_lots_21 (by decide) ?_
      refine lv_bipush (v := 20) hx hb dX5_lots_22 (by decide) ?_
      refine kpi (va_runS (As := [.int v3, .int (1 : Int32), .int (20 : Int32)]) (rest := []) ⟨hx, hb, hml, hown, hts⟩ (k_X5_in l v3 (1 : Int32) (20 : Int32) _ rfl) (va_cwS 3 hts (kGood (kgS mG_330 mG_331 mG_332 mG_326)) rfl rfl rfl hd_X5_in ⟨Nat.le_of_ble_eq_true rfl, Nat.le_of_ble_eq_true rfl⟩) preEq rfl rfl hl.1 rfl (lv_room (Nat.le_of_ble_eq_true rfl)) dX5_lots_24 ⟨Nat.zero_le _, Nat.zero_le _⟩) ?_
      refine lv_if_eq (tgt := 40) hx hb dX5_lots_27 (by decide) (fun c_3 => ?_) (fun c_3 => ?_)
      · replace hs := if_p c_3 hs
        refine lv_bipush (v := -2) hx hb dX5_lots_40 (by decide) ?_
        cases hs
        exact hret _ _ _ _ hP hD hS (vp_nar_int _) dX5_lots_42
      · replace hs := if_n c_3 hs
        refine lv_iload hx hb dX5_lots_30 (lv_at hl 4 rfl) ?_
        refine lv_iconst (v := 0) hx hb dX5_lots_32 (by decide) ?_
        refine lv_iconst (v := 1) hx hb dX5_lots_33 (by decide) ?_
        refine kpi (va_runS (As := [.int v4, .int (0 : Int32), .int (1 : Int32)]) (rest := []) ⟨hx, hb, hml, hown, hts⟩ (k_X5_in l v4 (0 : Int32) (1 : Int32) _ rfl) (va_cwS 3 hts (kGood (kgS mG_330 mG_331 mG_332 mG_326)) rfl rfl rfl hd_X5_in ⟨Nat.le_of_ble_eq_true rfl, Nat.le_of_ble_eq_true rfl⟩) preEq rfl rfl hl.1 rfl (lv_room (Nat.le_of_ble_eq_true rfl)) dX5_lots_34 ⟨Nat.zero_le _, Nat.zero_le _⟩) ?_
        refine lv_if_ne (tgt := 43) hx hb dX5_lots_37 (by decide) (fun c_4 => ?_) (fun c_4 => ?_)
        · replace hs := if_n c_4 hs
          refine lv_iload hx hb dX5_lots_43 (lv_at hl 4 rfl) ?_
          refine lv_if_ne (tgt := 59) hx hb dX5_lots_45 (by decide) (fun c_5 => ?_) (fun c_5 => ?_)
          · replace hs := if_n c_5 hs
            refine lv_iload_n hx hb dX5_lots_59 rfl (lv_at hl 1 rfl) ?_
            obtain ⟨r_6, hc_7, hs⟩ := ob1_e hs
            refine kpi (va_runS (As := [.int v1]) (rest := []) ⟨hx, hb, hml, hown, hts⟩ (k_X5_lotsFor l v1 r_6 hc_7) (va_cwS 1 hts (kGood (kgS mG_434 mG_435 mG_332 mG_432)) rfl rfl rfl hd_X5_lotsFor ⟨Nat.le_of_ble_eq_true rfl, Nat.le_of_ble_eq_true rfl⟩) preEq rfl rfl hl.1 rfl (lv_room (Nat.le_of_ble_eq_true rfl)) dX5_lots_60 ⟨Nat.zero_le _, Nat.zero_le _⟩) ?_
            refine lv_iload_n hx hb dX5_lots_63 rfl (lv_at hl 2 rfl) ?_
            obtain ⟨r_8, hc_9, hs⟩ := ob1_e hs
            refine kpi (va_runS (As := [.int v2]) (rest := [.int r_6]) ⟨hx, hb, hml, hown, hts⟩ (k_X5_lotsFor l v2 r_8 hc_9) (va_cwS 1 hts (kGood (kgS mG_434 mG_435 mG_332 mG_432)) rfl rfl rfl hd_X5_lotsFor ⟨Nat.le_of_ble_eq_true rfl, Nat.le_of_ble_eq_true rfl⟩) preEq rfl rfl hl.1 rfl (lv_room (Nat.le_of_ble_eq_true rfl)) dX5_lots_64 ⟨Nat.zero_le _, Nat.zero_le _⟩) ?_
            refine lv_iadd hx hb dX5_lots_67 ?_
            refine lv_iload_n hx hb dX5_lots_68 rfl (lv_at hl 3 rfl) ?_
            obtain ⟨r_10, hc_11, hs⟩ := ob1_e hs
            refine kpi (va_runS (As := [.int v3]) (rest := [.int (r_6 + r_8)]) ⟨hx, hb, hml, hown, hts⟩ (k_X5_lotsFor l v3 r_10 hc_11) (va_cwS 1 hts (kGood (kgS mG_434 mG_435 mG_332 mG_432)) rfl rfl rfl hd_X5_lotsFor ⟨Nat.le_of_ble_eq_true rfl, Nat.le_of_ble_eq_true rfl⟩) preEq rfl rfl hl.1 rfl (lv_room (Nat.le_of_ble_eq_true rfl)) dX5_lots_69 ⟨Nat.zero_le _, Nat.zero_le _⟩) ?_
            refine lv_iadd hx hb dX5_lots_72 ?_
            cases hs
            exact hret _ _ _ _ hP hD hS (vp_nar_int _) dX5_lots_73
          · replace hs := if_p c_5 hs
            refine lv_iload_n hx hb dX5_lots_48 rfl (lv_at hl 1 rfl) ?_
            refine lv_iload_n hx hb dX5_lots_49 rfl (lv_at hl 2 rfl) ?_
            refine lv_imul hx hb dX5_lots_50 ?_
            refine lv_iload_n hx hb dX5_lots_51 rfl (lv_at hl 3 rfl) ?_
            refine lv_imul hx hb dX5_lots_52 ?_
            obtain ⟨r_12, hc_13, hs⟩ := ob1_e hs
            refine kpi (va_runS (As := [.int ((v1 * v2) * v3)]) (rest := []) ⟨hx, hb, hml, hown, hts⟩ (k_X5_lotsFor l ((v1 * v2) * v3) r_12 hc_13) (va_cwS 1 hts (kGood (kgS mG_434 mG_435 mG_332 mG_432)) rfl rfl rfl hd_X5_lotsFor ⟨Nat.le_of_ble_eq_true rfl, Nat.le_of_ble_eq_true rfl⟩) preEq rfl rfl hl.1 rfl (lv_room (Nat.le_of_ble_eq_true rfl)) dX5_lots_53 ⟨Nat.zero_le _, Nat.zero_le _⟩) ?_
            refine lv_goto (tgt := 73) hx hb dX5_lots_56 (by decide) ?_
            cases hs
            exact hret _ _ _ _ hP hD hS (vp_nar_int _) dX5_lots_73
        · replace hs := if_p c_4 hs
          refine lv_bipush (v := -2) hx hb dX5_lots_40 (by decide) ?_
          cases hs
          exact hret _ _ _ _ hP hD hS (vp_nar_int _) dX5_lots_42
abbrev rm_X5_day : Room := { frames := 4, cells := 0, slots := 0, locals := 88 }
theorem hd_X5_day : yX5_day.cls ≠ "java/lang/invoke/MethodHandle" ∧ yX5_day.cls ≠ "java/lang/invoke/VarHandle" ∧ (parseMethodDescriptor yX5_day.desc).map (fun d => d.parameters.length) = some 3 := by decide +kernel
set_option maxHeartbeats 4000000 in
set_option maxRecDepth 100000 in
theorem k_X5_day (l : Launch) (dC : Nat → ClassId) (dI : Nat → Nat → Nat) (cI cZ cS : ClassId) (q5 q5bk q5nw q5to q5ne q5st q5pd q5cn q5ig q5ik : Nat) (sz : Nat) (th : Int32) (si : Int32) (sn : Int32) (re : Int32) (ac : Int32) (fa : Int32) (fw : Int32) (bk : Ar) (nw : Ar) (to : Ar) (ne : Ar) (st : Ar) (pd : Ar) (cn : Ar) (ig : Ar) (ik : Ar) (v1 : Int32) (v2 : Int32) (v3 : Int32) (r0 : Int32) (nw_o : Ar) (hs : m_X5_day v1 v2 v3 th bk nw to = some (r0, nw_o)) : Met l yX5_day (.code yX5_day cX5_day 8 (some .int) :: kG) rm_X5_day (va_Pc [.ref q5, .int v1, .int v2, .int v3] (kW (dC, dI) cI cZ cS [(q5, .inr (5, [.ref q5bk, .ref q5nw, .ref q5to, .int th, .ref q5ne, .int si, .ref q5st, .int sn, .ref q5pd, .int re, .int ac, .int fa, .int fw, .ref q5cn, .ref q5ig, .ref q5ik])), (q5bk, .inl (cI, 15, .inl bk)), (q5nw, .inl (cI, 15, .inl nw)), (q5to, .inl (cI, 12, .inl to)), (q5ne, .inl (cI, 8, .inl ne)), (q5st, .inl (cI, 16, .inl st)), (q5pd, .inl (cI, 60, .inl pd)), (q5cn, .inl (cI, 3, .inl cn)), (q5ig, .inl (cI, 120, .inl ig)), (q5ik, .inl (cZ, 2, .inl ik))] sz)) (kQi (dC, dI) [(q5, .inr (5, [.ref q5bk, .ref q5nw, .ref q5to, .int th, .ref q5ne, .int si, .ref q5st, .int sn, .ref q5pd, .int re, .int ac, .int fa, .int fw, .ref q5cn, .ref q5ig, .ref q5ik])), (q5bk, .inl (cI, 15, .inl bk)), (q5nw, .inl (cI, 15, .inl nw)), (q5to, .inl (cI, 12, .inl to)), (q5ne, .inl (cI, 8, .inl ne)), (q5st, .inl (cI, 16, .inl st)), (q5pd, .inl (cI, 60, .inl pd)), (q5cn, .inl (cI, 3, .inl cn)), (q5ig, .inl (cI, 120, .inl ig)), (q5ik, .inl (cZ, 2, .inl ik))] [(q5, .inr (5, [.ref q5bk, .ref q5nw, .ref q5to, .int th, .ref q5ne, .int si, .ref q5st, .int sn, .ref q5pd, .int re, .int ac, .int fa, .int fw, .ref q5cn, .ref q5ig, .ref q5ik])), (q5bk, .inl (cI, 15, .inl bk)), (q5nw, .inl (cI, 15, .inl nw_o)), (q5to, .inl (cI, 12, .inl to)), (q5ne, .inl (cI, 8, .inl ne)), (q5st, .inl (cI, 16, .inl st)), (q5pd, .inl (cI, 60, .inl pd)), (q5cn, .inl (cI, 3, .inl cn)), (q5ig, .inl (cI, 120, .inl ig)), (q5ik, .inl (cZ, 2, .inl ik))] sz r0) 0 0 (va_A [(q5, .inr (5, [.ref q5bk, .ref q5nw, .ref q5to, .int th, .ref q5ne, .int si, .ref q5st, .int sn, .ref q5pd, .int re, .int ac, .int fa, .int fw, .ref q5cn, .ref q5ig, .ref q5ik])), (q5bk, .inl (cI, 15, .inl bk)), (q5nw, .inl (cI, 15, .inl nw)), (q5to, .inl (cI, 12, .inl to)), (q5ne, .inl (cI, 8, .inl ne)), (q5st, .inl (cI, 16, .inl st)), (q5pd, .inl (cI, 60, .inl pd)), (q5cn, .inl (cI, 3, .inl cn)), (q5ig, .inl (cI, 120, .inl ig)), (q5ik, .inl (cZ, 2, .inl ik))] sz) := by
  refine kMi (own := RX5) (ty := .int) rfl (by decide) rfl ?_ (Nat.le_of_ble_eq_true rfl)
  intro p e s m args below meth c Q A CF hK hN hA hP hD hret ls hl
  have hS : va_S A s.heap s.heap [] := va_S.rf
  obtain ⟨hx, hb, hml, hown, hts⟩ := id CF
  have hl : lv_has ls 8 [(0, .ref q5), (1, .int v1), (2, .int v2), (3, .int v3)] := hl
  unfold m_X5_day at hs
  refine lv_iload_n hx hb dX5_day_0 rfl (lv_at hl 1 rfl) ?_
  refine lv_iconst (v := 0) hx hb dX5_day_1 (by decide) ?_
  refine lv_sipush (v := 9999) hx hb dX5_day_2 (by decide) ?_
  refine kpi (va_runS (As := [.int v1, .int (0 : Int32), .int (9999 : Int32)]) (rest := []) ⟨hx, hb, hml, hown, hts⟩ (k_X5_in l v1 (0 : Int32) (9999 : Int32) _ rfl) (va_cwS 3 hts (kGood (kgS mG_330 mG_331 mG_332 mG_326)) rfl rfl rfl hd_X5_in ⟨Nat.le_of_ble_eq_true rfl, Nat.le_of_ble_eq_true rfl⟩) preEq rfl rfl hl.1 rfl (lv_room (Nat.le_of_ble_eq_true rfl)) dX5_day_5 ⟨Nat.zero_le _, Nat.zero_le _⟩) ?_
  refine lv_if_eq (tgt := 30) hx hb dX5_day_8 (by decide) (fun c_1 => ?_) (fun c_1 => ?_)
  · replace hs := if_p c_1 hs
    refine lv_bipush (v := -2) hx hb dX5_day_30 (by decide) ?_
    cases hs
    exact hret _ _ _ _ hP hD hS (vp_nar_int _) dX5_day_32
  · replace hs := if_n c_1 hs
    refine lv_iload_n hx hb dX5_day_11 rfl (lv_at hl 2 rfl) ?_
    refine lv_iconst (v := 1) hx hb dX5_day_12 (by decide) ?_
    refine lv_bipush (v := 99) hx hb dX5_day_13 (by decide) ?_
    refine kpi (va_runS (As := [.int v2, .int (1 : Int32), .int (99 : Int32)]) (rest := []) ⟨hx, hb, hml, hown, hts⟩ (k_X5_in l v2 (1 : Int32) (99 : Int32) _ rfl) (va_cwS 3 hts (kGood (kgS mG_330 mG_331 mG_332 mG_326)) rfl rfl rfl hd_X5_in ⟨Nat.le_of_ble_eq_true rfl, Nat.le_of_ble_eq_true rfl⟩) preEq rfl rfl hl.1 rfl (lv_room (Nat.le_of_ble_eq_true rfl)) dX5_day_15 ⟨Nat.zero_le _, Nat.zero_le _⟩) ?_
    refine lv_if_eq (tgt := 30) hx hb dX5_day_18 (by decide) (fun c_2 => ?_) (fun c_2 => ?_)
    · replace hs := if_p c_2 hs
      refine lv_bipush (v := -2) hx hb dX5_day_30 (by decide) ?_
      cases hs
      exact hret _ _ _ _ hP hD hS (vp_nar_int _) dX5_day_32
    · replace hs := if_n c_2 hs
      refine lv_iload_n hx hb dX5_day_21 rfl (lv_at hl 3 rfl) ?_
      refine lv_iconst (v := 0) hx hb dX5_day_22 (by decide) ?_
      refine lv_iconst (v := 2) hx hb dX5_day_23 (by decide) ?_
      refine kpi (va_runS (As := [.int v3, .int (0 : Int32), .int (2 : Int32)]) (rest := []) ⟨hx, hb, hml, hown, hts⟩ (k_X5_in l v3 (0 : Int32) (2 : Int32) _ rfl) (va_cwS 3 hts (kGood (kgS mG_330 mG_331 mG_332 mG_326)) rfl rfl rfl hd_X5_in ⟨Nat.le_of_ble_eq_true rfl, Nat.le_of_ble_eq_true rfl⟩) preEq rfl rfl hl.1 rfl (lv_room (Nat.le_of_ble_eq_true rfl)) dX5_day_24 ⟨Nat.zero_le _, Nat.zero_le _⟩) ?_
      refine lv_if_ne (tgt := 33) hx hb dX5_day_27 (by decide) (fun c_3 => ?_) (fun c_3 => ?_)
      · replace hs := if_n c_3 hs
        refine lv_aload_n hx hb dX5_day_33 rfl (lv_at hl 0 rfl) ?_
        obtain ⟨nw_4, hc_5, hs⟩ := ob1_e hs
        refine kcv (wr := []) (ws' := [(q5, .inr (5, [.ref q5bk, .ref q5nw, .ref q5to, .int th, .ref q5ne, .int si, .ref q5st, .int sn, .ref q5pd, .int re, .int ac, .int fa, .int fw, .ref q5cn, .ref q5ig, .ref q5ik])), (q5bk, .inl (cI, 15, .inl bk)), (q5nw, .inl (cI, 15, .inl nw_4)), (q5to, .inl (cI, 12, .inl to)), (q5ne, .inl (cI, 8, .inl ne)), (q5st, .inl (cI, 16, .inl st)), (q5pd, .inl (cI, 60, .inl pd)), (q5cn, .inl (cI, 3, .inl cn)), (q5ig, .inl (cI, 120, .inl ig)), (q5ik, .inl (cZ, 2, .inl ik))]) (va_runV (As := []) (rest := []) ⟨hx, hb, hml, hown, hts⟩ (k_X5_asNow l dC dI cI cZ cS q5 q5bk q5nw q5to q5ne q5st q5pd q5cn q5ig q5ik s.heap.size th si sn re ac fa fw bk nw to ne st pd cn ig ik nw_4 hc_5) (cwV 0 hts (kGood (kgV mG_379 mG_380 mG_381 mG_332 mG_350)) rfl rfl rfl ⟨rfl, hd_X5_asNow⟩ ⟨Nat.le_of_ble_eq_true rfl, Nat.le_of_ble_eq_true rfl⟩) (kpV hK hN (hP.sub (ws' := [(q5, .inr (5, [.ref q5bk, .ref q5nw, .ref q5to, .int th, .ref q5ne, .int si, .ref q5st, .int sn, .ref q5pd, .int re, .int ac, .int fa, .int fw, .ref q5cn, .ref q5ig, .ref q5ik])), (q5bk, .inl (cI, 15, .inl bk)), (q5nw, .inl (cI, 15, .inl nw)), (q5to, .inl (cI, 12, .inl to)), (q5ne, .inl (cI, 8, .inl ne)), (q5st, .inl (cI, 16, .inl st)), (q5pd, .inl (cI, 60, .inl pd)), (q5cn, .inl (cI, 3, .inl cn)), (q5ig, .inl (cI, 120, .inl ig)), (q5ik, .inl (cZ, 2, .inl ik))]) [0, 1, 2, 3, 4, 5, 6, 7, 8, 9] rfl) (hD.sub (ws' := [(q5, .inr (5, [.ref q5bk, .ref q5nw, .ref q5to, .int th, .ref q5ne, .int si, .ref q5st, .int sn, .ref q5pd, .int re, .int ac, .int fa, .int fw, .ref q5cn, .ref q5ig, .ref q5ik])), (q5bk, .inl (cI, 15, .inl bk)), (q5nw, .inl (cI, 15, .inl nw)), (q5to, .inl (cI, 12, .inl to)), (q5ne, .inl (cI, 8, .inl ne)), (q5st, .inl (cI, 16, .inl st)), (q5pd, .inl (cI, 60, .inl pd)), (q5cn, .inl (cI, 3, .inl cn)), (q5ig, .inl (cI, 120, .inl ig)), (q5ik, .inl (cZ, 2, .inl ik))]) [0, 1, 2, 3, 4, 5, 6, 7, 8, 9] rfl rfl) rfl rfl rfl) rfl rfl hl.1 rfl (lv_room (Nat.le_of_ble_eq_true rfl)) dX5_day_34 ⟨Nat.zero_le _, Nat.zero_le _⟩) hP hD hS hA [0, 1, 2, 3, 4, 5, 6, 7, 8, 9] [] [0, 1, 2, 3, 4, 5, 6, 7, 8, 9] rfl rfl rfl (by decide) rfl rfl (fun H locs hP hD hS => ?_)
        refine lv_iload_n hx hb dX5_day_37 rfl (lv_at hl 1 rfl) ?_
        refine lv_istore (lv' := [(4, .int v1), (0, .ref q5), (1, .int v1), (2, .int v2), (3, .int v3)]) hx hb dX5_day_38 hl (by decide) rfl (fun ls hl => ?_)
        refine lv_iconst (v := 0) hx hb dX5_day_40 (by decide) ?_
        refine lv_istore (lv' := [(5, .int (0 : Int32)), (4, .int v1), (0, .ref q5), (1, .int v1), (2, .int v2), (3, .int v3)]) hx hb dX5_day_41 hl (by decide) rfl (fun ls hl => ?_)
        have hL_43 : ∀ (n : Nat) (v4 : Int32) (v5 : Int32) (nw : Ar) (H : Heap) (locs : List Loc) (ls : Array Slot), va_P (dC, dI) vwCl [(q5, .inr (5, [.ref q5bk, .ref q5nw, .ref q5to, .int th, .ref q5ne, .int si, .ref q5st, .int sn, .ref q5pd, .int re, .int ac, .int fa, .int fw, .ref q5cn, .ref q5ig, .ref q5ik])), (q5bk, .inl (cI, 15, .inl bk)), (q5nw, .inl (cI, 15, .inl nw)), (q5to, .inl (cI, 12, .inl to)), (q5ne, .inl (cI, 8, .inl ne)), (q5st, .inl (cI, 16, .inl st)), (q5pd, .inl (cI, 60, .inl pd)), (q5cn, .inl (cI, 3, .inl cn)), (q5ig, .inl (cI, 120, .inl ig)), (q5ik, .inl (cZ, 2, .inl ik))] H → va_D A [(q5, .inr (5, [.ref q5bk, .ref q5nw, .ref q5to, .int th, .ref q5ne, .int si, .ref q5st, .int sn, .ref q5pd, .int re, .int ac, .int fa, .int fw, .ref q5cn, .ref q5ig, .ref q5ik])), (q5bk, .inl (cI, 15, .inl bk)), (q5nw, .inl (cI, 15, .inl nw)), (q5to, .inl (cI, 12, .inl to)), (q5ne, .inl (cI, 8, .inl ne)), (q5st, .inl (cI, 16, .inl st)), (q5pd, .inl (cI, 60, .inl pd)), (q5cn, .inl (cI, 3, .inl cn)), (q5ig, .inl (cI, 120, .inl ig)), (q5ik, .inl (cZ, 2, .inl ik))] → va_S A s.heap H locs → lv_has ls 8 [(0, .ref q5), (2, .int v2), (3, .int v3), (4, .int v4), (5, .int v5)] → L_X5_day_43 v2 v3 th to n v4 v5 nw = some (r0, nw_o) → W p l e rm_X5_day s m args below meth c H locs 0 0 Q (F0 m 43 ls []) := by
          intro n
          induction n with
          | zero =>
            intro v4 v5 nw H locs ls hP hD hS hl hs
            replace hs : (none : Option (Int32 × Ar)) = some (r0, nw_o) := hs
            cases hs
          | succ n_43 ih_43 =>
            intro v4 v5 nw H locs ls hP hD hS hl hs
            replace hs : b_X5_day_43  (L_X5_day_43 v2 v3 th to n_43) v2 v3 th to v4 v5 nw = some (r0, nw_o) := hs
            unfold b_X5_day_43 at hs
            refine lv_iload hx hb dX5_day_43 (lv_at hl 4 rfl) ?_
            refine lv_iload_n hx hb dX5_day_45 rfl (lv_at hl 1 rfl) ?_
            refine lv_icmp_ge (tgt := 137) hx hb dX5_day_46 (by decide) (fun c_6 => ?_) (fun c_6 => ?_)
            · replace hs := if_p c_6 hs
              refine lv_iload_n hx hb dX5_day_137 rfl (lv_at hl 2 rfl) ?_
              refine lv_if_ne (tgt := 151) hx hb dX5_day_138 (by decide) (fun c_7 => ?_) (fun c_7 => ?_)
              · replace hs := if_n c_7 hs
                refine lv_iload_n hx hb dX5_day_151 rfl (lv_at hl 2 rfl) ?_
                refine lv_iconst (v := 1) hx hb dX5_day_152 (by decide) ?_
                refine lv_icmp_ne (tgt := 166) hx hb dX5_day_153 (by decide) (fun c_8 => ?_) (fun c_8 => ?_)
                · replace hs := if_n c_8 hs
                  refine lv_aload_n hx hb dX5_day_166 rfl (lv_at hl 0 rfl) ?_
                  refine va_get (D := (dC, dI)) (ci := 5) (v := .ref q5nw) (C := RX5) (T := TX5) (N := 16) hx hb hts (fun w h => kg1 (iG_5 w h)) hown hK hP 0 rfl rfl 1 (by decide) (hts _ (kg1 mG_317)) (fun _ h9 => h9) rfl dX5_day_167 ?_
                  refine lv_bipush (v := 14) hx hb dX5_day_170 (by decide) ?_
                  refine kald hx hb hK hP 2 0 rfl rfl (j := 14) rfl (inb_e (i := (14 : Int32)) (n := 15) rfl) dX5_day_172 ?_
                  cases hs
                  exact hret _ _ _ _ hP hD hS (vp_nar_int _) dX5_day_173
                · replace hs := if_p c_8 hs
                  refine lv_aload_n hx hb dX5_day_156 rfl (lv_at hl 0 rfl) ?_
                  refine va_get (D := (dC, dI)) (ci := 5) (v := .ref q5nw) (C := RX5) (T := TX5) (N := 16) hx hb hts (fun w h => kg1 (iG_5 w h)) hown hK hP 0 rfl rfl 1 (by decide) (hts _ (kg1 mG_317)) (fun _ h9 => h9) rfl dX5_day_157 ?_
                  refine lv_bipush (v := 12) hx hb dX5_day_160 (by decide) ?_
                  refine kald hx hb hK hP 2 0 rfl rfl (j := 12) rfl (inb_e (i := (12 : Int32)) (n := 15) rfl) dX5_day_162 ?_
                  refine lv_goto (tgt := 173) hx hb dX5_day_163 (by decide) ?_
                  cases hs
                  exact hret _ _ _ _ hP hD hS (vp_nar_int _) dX5_day_173
              · replace hs := if_p c_7 hs
                refine lv_aload_n hx hb dX5_day_141 rfl (lv_at hl 0 rfl) ?_
                obtain ⟨r_9, hc_10, hs⟩ := ob1_e hs
                refine kci (wr := []) (ws' := [(q5, .inr (5, [.ref q5bk, .ref q5nw, .ref q5to, .int th, .ref q5ne, .int si, .ref q5st, .int sn, .ref q5pd, .int re, .int ac, .int fa, .int fw, .ref q5cn, .ref q5ig, .ref q5ik])), (q5bk, .inl (cI, 15, .inl bk)), (q5nw, .inl (cI, 15, .inl nw)), (q5to, .inl (cI, 12, .inl to)), (q5ne, .inl (cI, 8, .inl ne)), (q5st, .inl (cI, 16, .inl st)), (q5pd, .inl (cI, 60, .inl pd)), (q5cn, .inl (cI, 3, .inl cn)), (q5ig, .inl (cI, 120, .inl ig)), (q5ik, .inl (cZ, 2, .inl ik))]) (va_runV (As := []) (rest := []) ⟨hx, hb, hml, hown, hts⟩ (k_X5_downSet l dC dI cI cZ cS q5 q5bk q5nw q5to q5ne q5st q5pd q5cn q5ig q5ik H.size th si sn re ac fa fw bk nw to ne st pd cn ig ik r_9 hc_10) (cwV 0 hts (kGood (kgV mG_385 mG_386 mG_387 mG_332 mG_374)) rfl rfl rfl ⟨rfl, hd_X5_downSet⟩ ⟨Nat.le_of_ble_eq_true rfl, Nat.le_of_ble_eq_true rfl⟩) (kpV hK hN (hP.sub (ws' := [(q5, .inr (5, [.ref q5bk, .ref q5nw, .ref q5to, .int th, .ref q5ne, .int si, .ref q5st, .int sn, .ref q5pd, .int re, .int ac, .int fa, .int fw, .ref q5cn, .ref q5ig, .ref q5ik])), (q5bk, .inl (cI, 15, .inl bk)), (q5nw, .inl (cI, 15, .inl nw)), (q5to, .inl (cI, 12, .inl to)), (q5ne, .inl (cI, 8, .inl ne)), (q5st, .inl (cI, 16, .inl st)), (q5pd, .inl (cI, 60, .inl pd)), (q5cn, .inl (cI, 3, .inl cn)), (q5ig, .inl (cI, 120, .inl ig)), (q5ik, .inl (cZ, 2, .inl ik))]) [0, 1, 2, 3, 4, 5, 6, 7, 8, 9] rfl) (hD.sub (ws' := [(q5, .inr (5, [.ref q5bk, .ref q5nw, .ref q5to, .int th, .ref q5ne, .int si, .ref q5st, .int sn, .ref q5pd, .int re, .int ac, .int fa, .int fw, .ref q5cn, .ref q5ig, .ref q5ik])), (q5bk, .inl (cI, 15, .inl bk)), (q5nw, .inl (cI, 15, .inl nw)), (q5to, .inl (cI, 12, .inl to)), (q5ne, .inl (cI, 8, .inl ne)), (q5st, .inl (cI, 16, .inl st)), (q5pd, .inl (cI, 60, .inl pd)), (q5cn, .inl (cI, 3, .inl cn)), (q5ig, .inl (cI, 120, .inl ig)), (q5ik, .inl (cZ, 2, .inl ik))]) [0, 1, 2, 3, 4, 5, 6, 7, 8, 9] rfl rfl) rfl rfl rfl) rfl rfl hl.1 rfl (lv_room (Nat.le_of_ble_eq_true rfl)) dX5_day_142 ⟨Nat.zero_le _, Nat.zero_le _⟩) hP hD hS hA [0, 1, 2, 3, 4, 5, 6, 7, 8, 9] [] [0, 1, 2, 3, 4, 5, 6, 7, 8, 9] rfl rfl rfl (by decide) rfl rfl (fun H locs hP hD hS => ?_)
                obtain ⟨r_11, hc_12, hs⟩ := ob1_e hs
                refine kpi (va_runS (As := [.int r_9]) (rest := []) ⟨hx, hb, hml, hown, hts⟩ (k_X5_bits l r_9 r_11 hc_12) (va_cwS 1 hts (kGood (kgS mG_338 mG_339 mG_332 mG_328)) rfl rfl rfl hd_X5_bits ⟨Nat.le_of_ble_eq_true rfl, Nat.le_of_ble_eq_true rfl⟩) preEq rfl rfl hl.1 rfl (lv_room (Nat.le_of_ble_eq_true rfl)) dX5_day_145 ⟨Nat.zero_le _, Nat.zero_le _⟩) ?_
                refine lv_goto (tgt := 173) hx hb dX5_day_148 (by decide) ?_
                cases hs
                exact hret _ _ _ _ hP hD hS (vp_nar_int _) dX5_day_173
            · replace hs := if_n c_6 hs
              refine lv_bipush (v := 75) hx hb dX5_day_49 (by decide) ?_
              refine lv_iload hx hb dX5_day_51 (lv_at hl 3 rfl) ?_
              refine lv_imul hx hb dX5_day_53 ?_
              refine lv_bipush (v := 74) hx hb dX5_day_54 (by decide) ?_
              refine lv_iadd hx hb dX5_day_56 ?_
              refine lv_ldc (v := 65537) hx hb hown (hts _ (kg1 mG_436)) dX5_day_57 ?_
              refine lv_irem hx hb dX5_day_59 (by decide) ?_
              refine lv_istore (lv' := [(4, .int (irem (((75 : Int32) * v4) + (74 : Int32)) (65537 : Int32))), (0, .ref q5), (2, .int v2), (3, .int v3), (5, .int v5)]) hx hb dX5_day_60 hl (by decide) rfl (fun ls hl => ?_)
              refine lv_iload hx hb dX5_day_62 (lv_at hl 0 rfl) ?_
              refine lv_bipush (v := 8) hx hb dX5_day_64 (by decide) ?_
              refine lv_irem hx hb dX5_day_66 (by decide) ?_
              refine lv_topi (fun w_13 ew_13 => ?_)
              replace hs := bnd_e ew_13 hs
              refine lv_istore (lv' := [(6, .int w_13), (4, .int (irem (((75 : Int32) * v4) + (74 : Int32)) (65537 : Int32))), (0, .ref q5), (2, .int v2), (3, .int v3), (5, .int v5)]) hx hb dX5_day_67 hl (by decide) rfl (fun ls hl => ?_)
              refine lv_iload hx hb dX5_day_69 (lv_at hl 0 rfl) ?_
              refine lv_iconst (v := 4) hx hb dX5_day_71 (by decide) ?_
              have hJ_106 : ∀ (v4 : Int32) (v5 : Int32) (s106_0 : Int32) (nw : Ar) (H : Heap) (locs : List Loc) (ls : Array Slot), va_P (dC, dI) vwCl [(q5, .inr (5, [.ref q5bk, .ref q5nw, .ref q5to, .int th, .ref q5ne, .int si, .ref q5st, .int sn, .ref q5pd, .int re, .int ac, .int fa, .int fw, .ref q5cn, .ref q5ig, .ref q5ik])), (q5bk, .inl (cI, 15, .inl bk)), (q5nw, .inl (cI, 15, .inl nw)), (q5to, .inl (cI, 12, .inl to)), (q5ne, .inl (cI, 8, .inl ne)), (q5st, .inl (cI, 16, .inl st)), (q5pd, .inl (cI, 60, .inl pd)), (q5cn, .inl (cI, 3, .inl cn)), (q5ig, .inl (cI, 120, .inl ig)), (q5ik, .inl (cZ, 2, .inl ik))] H → va_D A [(q5, .inr (5, [.ref q5bk, .ref q5nw, .ref q5to, .int th, .ref q5ne, .int si, .ref q5st, .int sn, .ref q5pd, .int re, .int ac, .int fa, .int fw, .ref q5cn, .ref q5ig, .ref q5ik])), (q5bk, .inl (cI, 15, .inl bk)), (q5nw, .inl (cI, 15, .inl nw)), (q5to, .inl (cI, 12, .inl to)), (q5ne, .inl (cI, 8, .inl ne)), (q5st, .inl (cI, 16, .inl st)), (q5pd, .inl (cI, 60, .inl pd)), (q5cn, .inl (cI, 3, .inl cn)), (q5ig, .inl (cI, 120, .inl ig)), (q5ik, .inl (cZ, 2, .inl ik))] → va_S A s.heap H locs → lv_has ls 8 [(0, .ref q5), (2, .int v2), (3, .int v3), (4, .int v4), (5, .int v5)] → j_X5_day_106 (L_X5_day_43 v2 v3 th to n_43) v4 v5 s106_0 th nw to = some (r0, nw_o) → W p l e rm_X5_day s m args below meth c H locs 0 0 Q (F0 m 106 ls [.int s106_0]) := by
                intro v4 v5 s106_0 nw H locs ls hP hD hS hl hs
                unfold j_X5_day_106 at hs
                refine lv_istore (lv' := [(7, .int s106_0), (0, .ref q5), (2, .int v2), (3, .int v3), (4, .int v4), (5, .int v5)]) hx hb dX5_day_106 hl (by decide) rfl (fun ls hl => ?_)
                refine lv_aload_n hx hb dX5_day_108 rfl (lv_at hl 1 rfl) ?_
                refine lv_iload hx hb dX5_day_109 (lv_at hl 0 rfl) ?_
                refine kci (wr := []) (ws' := [(q5, .inr (5, [.ref q5bk, .ref q5nw, .ref q5to, .int th, .ref q5ne, .int si, .ref q5st, .int sn, .ref q5pd, .int re, .int ac, .int fa, .int fw, .ref q5cn, .ref q5ig, .ref q5ik])), (q5bk, .inl (cI, 15, .inl bk)), (q5nw, .inl (cI, 15, .inl nw)), (q5to, .inl (cI, 12, .inl to)), (q5ne, .inl (cI, 8, .inl ne)), (q5st, .inl (cI, 16, .inl st)), (q5pd, .inl (cI, 60, .inl pd)), (q5cn, .inl (cI, 3, .inl cn)), (q5ig, .inl (cI, 120, .inl ig)), (q5ik, .inl (cZ, 2, .inl ik))]) (va_runV (As := [.int s106_0]) (rest := []) ⟨hx, hb, hml, hown, hts⟩ (k_X5_whyNot l dC dI cI cZ cS q5 q5bk q5nw q5to q5ne q5st q5pd q5cn q5ig q5ik H.size th si sn re ac fa fw bk nw to ne st pd cn ig ik s106_0 _ rfl) (cwV 1 hts (kGood (kgV mG_382 mG_383 mG_384 mG_332 mG_363)) rfl rfl rfl ⟨rfl, hd_X5_whyNot⟩ ⟨Nat.le_of_ble_eq_true rfl, Nat.le_of_ble_eq_true rfl⟩) (kpV hK hN (hP.sub (ws' := [(q5, .inr (5, [.ref q5bk, .ref q5nw, .ref q5to, .int th, .ref q5ne, .int si, .ref q5st, .int sn, .ref q5pd, .int re, .int ac, .int fa, .int fw, .ref q5cn, .ref q5ig, .ref q5ik])), (q5bk, .inl (cI, 15, .inl bk)), (q5nw, .inl (cI, 15, .inl nw)), (q5to, .inl (cI, 12, .inl to)), (q5ne, .inl (cI, 8, .inl ne)), (q5st, .inl (cI, 16, .inl st)), (q5pd, .inl (cI, 60, .inl pd)), (q5cn, .inl (cI, 3, .inl cn)), (q5ig, .inl (cI, 120, .inl ig)), (q5ik, .inl (cZ, 2, .inl ik))]) [0, 1, 2, 3, 4, 5, 6, 7, 8, 9] rfl) (hD.sub (ws' := [(q5, .inr (5, [.ref q5bk, .ref q5nw, .ref q5to, .int th, .ref q5ne, .int si, .ref q5st, .int sn, .ref q5pd, .int re, .int ac, .int fa, .int fw, .ref q5cn, .ref q5ig, .ref q5ik])), (q5bk, .inl (cI, 15, .inl bk)), (q5nw, .inl (cI, 15, .inl nw)), (q5to, .inl (cI, 12, .inl to)), (q5ne, .inl (cI, 8, .inl ne)), (q5st, .inl (cI, 16, .inl st)), (q5pd, .inl (cI, 60, .inl pd)), (q5cn, .inl (cI, 3, .inl cn)), (q5ig, .inl (cI, 120, .inl ig)), (q5ik, .inl (cZ, 2, .inl ik))]) [0, 1, 2, 3, 4, 5, 6, 7, 8, 9] rfl rfl) rfl rfl rfl) rfl rfl hl.1 rfl (lv_room (Nat.le_of_ble_eq_true rfl)) dX5_day_111 ⟨Nat.zero_le _, Nat.zero_le _⟩) hP hD hS hA [0, 1, 2, 3, 4, 5, 6, 7, 8, 9] [] [0, 1, 2, 3, 4, 5, 6, 7, 8, 9] rfl rfl rfl (by decide) rfl rfl (fun H locs hP hD hS => ?_)
                refine lv_if_ne (tgt := 131) hx hb dX5_day_114 (by decide) (fun c_17 => ?_) (fun c_17 => ?_)
                · replace hs := if_n c_17 hs
                  refine lv_iinc (v := (v5 + 1)) (lv' := [(5, .int (v5 + 1)), (7, .int s106_0), (0, .ref q5), (2, .int v2), (3, .int v3), (4, .int v4)]) hx hb dX5_day_131 hl (k := 5) rfl rfl (by decide) rfl (fun ls hl => ?_)
                  refine lv_goto (tgt := 43) hx hb dX5_day_134 (by decide) ?_
                  exact ih_43 v4 (v5 + 1) nw _ _ _ hP hD hS (lv_sub hl [2, 3, 4, 5, 0] rfl) hs
                · replace hs := if_p c_17 hs
                  refine lv_aload_n hx hb dX5_day_117 rfl (lv_at hl 1 rfl) ?_
                  refine lv_iload hx hb dX5_day_118 (lv_at hl 0 rfl) ?_
                  refine lv_iload hx hb dX5_day_120 (lv_at hl 4 rfl) ?_
                  refine lv_bipush (v := 8) hx hb dX5_day_122 (by decide) ?_
                  refine lv_idiv hx hb dX5_day_124 (by decide) ?_
                  refine lv_bipush (v := 10) hx hb dX5_day_125 (by decide) ?_
                  refine lv_irem hx hb dX5_day_127 (by decide) ?_
                  obtain ⟨nw_18, hc_19, hs⟩ := ob1_e hs
                  refine kcv (wr := []) (ws' := [(q5, .inr (5, [.ref q5bk, .ref q5nw, .ref q5to, .int th, .ref q5ne, .int si, .ref q5st, .int sn, .ref q5pd, .int re, .int ac, .int fa, .int fw, .ref q5cn, .ref q5ig, .ref q5ik])), (q5bk, .inl (cI, 15, .inl bk)), (q5nw, .inl (cI, 15, .inl nw_18)), (q5to, .inl (cI, 12, .inl to)), (q5ne, .inl (cI, 8, .inl ne)), (q5st, .inl (cI, 16, .inl st)), (q5pd, .inl (cI, 60, .inl pd)), (q5cn, .inl (cI, 3, .inl cn)), (q5ig, .inl (cI, 120, .inl ig)), (q5ik, .inl (cZ, 2, .inl ik))]) (va_runV (As := [.int s106_0, .int (irem (v4 / (8 : Int32)) (10 : Int32))]) (rest := []) ⟨hx, hb, hml, hown, hts⟩ (k_X5_act l dC dI cI cZ cS q5 q5bk q5nw q5to q5ne q5st q5pd q5cn q5ig q5ik H.size th si sn re ac fa fw bk nw to ne st pd cn ig ik s106_0 (irem (v4 / (8 : Int32)) (10 : Int32)) nw_18 hc_19) (cwV 2 hts (kGood (kgV mG_388 mG_389 mG_390 mG_332 mG_373)) rfl rfl rfl ⟨rfl, hd_X5_act⟩ ⟨Nat.le_of_ble_eq_true rfl, Nat.le_of_ble_eq_true rfl⟩) (kpV hK hN (hP.sub (ws' := [(q5, .inr (5, [.ref q5bk, .ref q5nw, .ref q5to, .int th, .ref q5ne, .int si, .ref q5st, .int sn, .ref q5pd, .int re, .int ac, .int fa, .int fw, .ref q5cn, .ref q5ig, .ref q5ik])), (q5bk, .inl (cI, 15, .inl bk)), (q5nw, .inl (cI, 15, .inl nw)), (q5to, .inl (cI, 12, .inl to)), (q5ne, .inl (cI, 8, .inl ne)), (q5st, .inl (cI, 16, .inl st)), (q5pd, .inl (cI, 60, .inl pd)), (q5cn, .inl (cI, 3, .inl cn)), (q5ig, .inl (cI, 120, .inl ig)), (q5ik, .inl (cZ, 2, .inl ik))]) [0, 1, 2, 3, 4, 5, 6, 7, 8, 9] rfl) (hD.sub (ws' := [(q5, .inr (5, [.ref q5bk, .ref q5nw, .ref q5to, .int th, .ref q5ne, .int si, .ref q5st, .int sn, .ref q5pd, .int re, .int ac, .int fa, .int fw, .ref q5cn, .ref q5ig, .ref q5ik])), (q5bk, .inl (cI, 15, .inl bk)), (q5nw, .inl (cI, 15, .inl nw)), (q5to, .inl (cI, 12, .inl to)), (q5ne, .inl (cI, 8, .inl ne)), (q5st, .inl (cI, 16, .inl st)), (q5pd, .inl (cI, 60, .inl pd)), (q5cn, .inl (cI, 3, .inl cn)), (q5ig, .inl (cI, 120, .inl ig)), (q5ik, .inl (cZ, 2, .inl ik))]) [0, 1, 2, 3, 4, 5, 6, 7, 8, 9] rfl rfl) rfl rfl rfl) rfl rfl hl.1 rfl (lv_room (Nat.le_of_ble_eq_true rfl)) dX5_day_128 ⟨Nat.zero_le _, Nat.zero_le _⟩) hP hD hS hA [0, 1, 2, 3, 4, 5, 6, 7, 8, 9] [] [0, 1, 2, 3, 4, 5, 6, 7, 8, 9] rfl rfl rfl (by decide) rfl rfl (fun H locs hP hD hS => ?_)
                  refine lv_iinc (v := (v5 + 1)) (lv' := [(5, .int (v5 + 1)), (7, .int s106_0), (0, .ref q5), (2, .int v2), (3, .int v3), (4, .int v4)]) hx hb dX5_day_131 hl (k := 5) rfl rfl (by decide) rfl (fun ls hl => ?_)
                  refine lv_goto (tgt := 43) hx hb dX5_day_134 (by decide) ?_
                  exact ih_43 v4 (v5 + 1) nw_18 _ _ _ hP hD hS (lv_sub hl [2, 3, 4, 5, 0] rfl) hs
              refine lv_icmp_ge (tgt := 80) hx hb dX5_day_72 (by decide) (fun c_14 => ?_) (fun c_14 => ?_)
              · replace hs := if_p c_14 hs
                refine lv_iload hx hb dX5_day_80 (lv_at hl 0 rfl) ?_
                refine lv_bipush (v := 6) hx hb dX5_day_82 (by decide) ?_
                refine lv_icmp_ge (tgt := 92) hx hb dX5_day_84 (by decide) (fun c_15 => ?_) (fun c_15 => ?_)
                · replace hs := if_p c_15 hs
                  refine lv_iload hx hb dX5_day_92 (lv_at hl 0 rfl) ?_
                  refine lv_bipush (v := 6) hx hb dX5_day_94 (by decide) ?_
                  refine lv_icmp_ne (tgt := 104) hx hb dX5_day_96 (by decide) (fun c_16 => ?_) (fun c_16 => ?_)
                  · replace hs := if_n c_16 hs
                    refine lv_bipush (v := 110) hx hb dX5_day_104 (by decide) ?_
                    exact hJ_106 (irem (((75 : Int32) * v4) + (74 : Int32)) (65537 : Int32)) v5 (110 : Int32) nw _ _ _ hP hD hS (lv_sub hl [2, 3, 4, 1, 5] rfl) hs
                  · replace hs := if_p c_16 hs
                    refine lv_bipush (v := 33) hx hb dX5_day_99 (by decide) ?_
                    refine lv_goto (tgt := 106) hx hb dX5_day_101 (by decide) ?_
                    exact hJ_106 (irem (((75 : Int32) * v4) + (74 : Int32)) (65537 : Int32)) v5 (33 : Int32) nw _ _ _ hP hD hS (lv_sub hl [2, 3, 4, 1, 5] rfl) hs
                · replace hs := if_n c_15 hs
                  refine lv_bipush (v := 104) hx hb dX5_day_87 (by decide) ?_
                  refine lv_goto (tgt := 106) hx hb dX5_day_89 (by decide) ?_
                  exact hJ_106 (irem (((75 : Int32) * v4) + (74 : Int32)) (65537 : Int32)) v5 (104 : Int32) nw _ _ _ hP hD hS (lv_sub hl [2, 3, 4, 1, 5] rfl) hs
              · replace hs := if_n c_14 hs
                refine lv_bipush (v := 46) hx hb dX5_day_75 (by decide) ?_
                refine lv_goto (tgt := 106) hx hb dX5_day_77 (by decide) ?_
                exact hJ_106 (irem (((75 : Int32) * v4) + (74 : Int32)) (65537 : Int32)) v5 (46 : Int32) nw _ _ _ hP hD hS (lv_sub hl [2, 3, 4, 1, 5] rfl) hs
        exact hL_43 fu v1 (0 : Int32) nw_4 _ _ _ hP hD hS (lv_sub hl [2, 4, 5, 1, 0] rfl) hs
      · replace hs := if_p c_3 hs
        refine lv_bipush (v := -2) hx hb dX5_day_30 (by decide) ?_
        cases hs
        exact hret _ _ _ _ hP hD hS (vp_nar_int _) dX5_day_32
abbrev rm_X5_image : Room := { frames := 1, cells := 0, slots := 0, locals := 22 }
theorem hd_X5_image : yX5_image.cls ≠ "java/lang/invoke/MethodHandle" ∧ yX5_image.cls ≠ "java/lang/invoke/VarHandle" ∧ (parseMethodDescriptor yX5_image.desc).map (fun d => d.parameters.length) = some 1 := by decide +kernel
set_option maxHeartbeats 4000000 in
set_option maxRecDepth 100000 in
theorem k_X5_image (l : Launch) (dC : Nat → ClassId) (dI : Nat → Nat → Nat) (cI cZ cS : ClassId) (q5 q5bk q5nw q5to q5ne q5st q5pd q5cn q5ig q5ik : Nat) (sz : Nat) (th : Int32) (si : Int32) (sn : Int32) (re : Int32) (ac : Int32) (fa : Int32) (fw : Int32) (bk : Ar) (nw : Ar) (to : Ar) (ne : Ar) (st : Ar) (pd : Ar) (cn : Ar) (ig : Ar) (ik : Ar) (v1 : Int32) (r0 : Int32) (ig_o : Ar) (ik_o : Ar) (hs : m_X5_image v1 th si bk to ne st ig ik = some (r0, ig_o, ik_o)) : Met l yX5_image (.code yX5_image cX5_image 4 (some .int) :: kG) rm_X5_image (va_Pc [.ref q5, .int v1] (kW (dC, dI) cI cZ cS [(q5, .inr (5, [.ref q5bk, .ref q5nw, .ref q5to, .int th, .ref q5ne, .int si, .ref q5st, .int sn, .ref q5pd, .int re, .int ac, .int fa, .int fw, .ref q5cn, .ref q5ig, .ref q5ik])), (q5bk, .inl (cI, 15, .inl bk)), (q5nw, .inl (cI, 15, .inl nw)), (q5to, .inl (cI, 12, .inl to)), (q5ne, .inl (cI, 8, .inl ne)), (q5st, .inl (cI, 16, .inl st)), (q5pd, .inl (cI, 60, .inl pd)), (q5cn, .inl (cI, 3, .inl cn)), (q5ig, .inl (cI, 120, .inl ig)), (q5ik, .inl (cZ, 2, .inl ik))] sz)) (kQi (dC, dI) [(q5, .inr (5, [.ref q5bk, .ref q5nw, .ref q5to, .int th, .ref q5ne, .int si, .ref q5st, .int sn, .ref q5pd, .int re, .int ac, .int fa, .int fw, .ref q5cn, .ref q5ig, .ref q5ik])), (q5bk, .inl (cI, 15, .inl bk)), (q5nw, .inl (cI, 15, .inl nw)), (q5to, .inl (cI, 12, .inl to)), (q5ne, .inl (cI, 8, .inl ne)), (q5st, .inl (cI, 16, .inl st)), (q5pd, .inl (cI, 60, .inl pd)), (q5cn, .inl (cI, 3, .inl cn)), (q5ig, .inl (cI, 120, .inl ig)), (q5ik, .inl (cZ, 2, .inl ik))] [(q5, .inr (5, [.ref q5bk, .ref q5nw, .ref q5to, .int th, .ref q5ne, .int si, .ref q5st, .int sn, .ref q5pd, .int re, .int ac, .int fa, .int fw, .ref q5cn, .ref q5ig, .ref q5ik])), (q5bk, .inl (cI, 15, .inl bk)), (q5nw, .inl (cI, 15, .inl nw)), (q5to, .inl (cI, 12, .inl to)), (q5ne, .inl (cI, 8, .inl ne)), (q5st, .inl (cI, 16, .inl st)), (q5pd, .inl (cI, 60, .inl pd)), (q5cn, .inl (cI, 3, .inl cn)), (q5ig, .inl (cI, 120, .inl ig_o)), (q5ik, .inl (cZ, 2, .inl ik_o))] sz r0) 0 0 (va_A [(q5, .inr (5, [.ref q5bk, .ref q5nw, .ref q5to, .int th, .ref q5ne, .int si, .ref q5st, .int sn, .ref q5pd, .int re, .int ac, .int fa, .int fw, .ref q5cn, .ref q5ig, .ref q5ik])), (q5bk, .inl (cI, 15, .inl bk)), (q5nw, .inl (cI, 15, .inl nw)), (q5to, .inl (cI, 12, .inl to)), (q5ne, .inl (cI, 8, .inl ne)), (q5st, .inl (cI, 16, .inl st)), (q5pd, .inl (cI, 60, .inl pd)), (q5cn, .inl (cI, 3, .inl cn)), (q5ig, .inl (cI, 120, .inl ig)), (q5ik, .inl (cZ, 2, .inl ik))] sz) := by
  refine kMi (own := RX5) (ty := .int) rfl (by decide) rfl ?_ (Nat.le_of_ble_eq_true rfl)
  intro p e s m args below meth c Q A CF hK hN hA hP hD hret ls hl
  have hS : va_S A s.heap s.heap [] := va_S.rf
  obtain ⟨hx, hb, hml, hown, hts⟩ := id CF
  have hl : lv_has ls 4 [(0, .ref q5), (1, .int v1)] := hl
  unfold m_X5_image at hs
  refine lv_iload_n hx hb dX5_image_0 rfl (lv_at hl 1 rfl) ?_
  refine lv_iconst (v := 0) hx hb dX5_image_1 (by decide) ?_
  refine lv_iconst (v := 1) hx hb dX5_image_2 (by decide) ?_
  refine kpi (va_runS (As := [.int v1, .int (0 : Int32), .int (1 : Int32)]) (rest := []) ⟨hx, hb, hml, hown, hts⟩ (k_X5_in l v1 (0 : Int32) (1 : Int32) _ rfl) (va_cwS 3 hts (kGood (kgS mG_330 mG_331 mG_332 mG_326)) rfl rfl rfl hd_X5_in ⟨Nat.le_of_ble_eq_true rfl, Nat.le_of_ble_eq_true rfl⟩) preEq rfl rfl hl.1 rfl (lv_room (Nat.le_of_ble_eq_true rfl)) dX5_image_3 ⟨Nat.zero_le _, Nat.zero_le _⟩) ?_
  refine lv_if_ne (tgt := 12) hx hb dX5_image_6 (by decide) (fun c_1 => ?_) (fun c_1 => ?_)
  · replace hs := if_n c_1 hs
    refine lv_bipush (v := 60) hx hb dX5_image_12 (by decide) ?_
    refine lv_iload_n hx hb dX5_image_14 rfl (lv_at hl 1 rfl) ?_
    refine lv_imul hx hb dX5_image_15 ?_
    refine lv_istore_n (lv' := [(2, .int ((60 : Int32) * v1)), (0, .ref q5), (1, .int v1)]) hx hb dX5_image_16 rfl hl (by decide) rfl (fun ls hl => ?_)
    refine lv_iconst (v := 0) hx hb dX5_image_17 (by decide) ?_
    refine lv_istore_n (lv' := [(3, .int (0 : Int32)), (2, .int ((60 : Int32) * v1)), (0, .ref q5), (1, .int v1)]) hx hb dX5_image_18 rfl hl (by decide) rfl (fun ls hl => ?_)
    have hL_19 : ∀ (n : Nat) (v2 : Int32) (v3 : Int32) (ig : Ar) (ik : Ar) (H : Heap) (locs : List Loc) (ls : Array Slot), va_P (dC, dI) vwCl [(q5, .inr (5, [.ref q5bk, .ref q5nw, .ref q5to, .int th, .ref q5ne, .int si, .ref q5st, .int sn, .ref q5pd, .int re, .int ac, .int fa, .int fw, .ref q5cn, .ref q5ig, .ref q5ik])), (q5bk, .inl (cI, 15, .inl bk)), (q5nw, .inl (cI, 15, .inl nw)), (q5to, .inl (cI, 12, .inl to)), (q5ne, .inl (cI, 8, .inl ne)), (q5st, .inl (cI, 16, .inl st)), (q5pd, .inl (cI, 60, .inl pd)), (q5cn, .inl (cI, 3, .inl cn)), (q5ig, .inl (cI, 120, .inl ig)), (q5ik, .inl (cZ, 2, .inl ik))] H → va_D A [(q5, .inr (5, [.ref q5bk, .ref q5nw, .ref q5to, .int th, .ref q5ne, .int si, .ref q5st, .int sn, .ref q5pd, .int re, .int ac, .int fa, .int fw, .ref q5cn, .ref q5ig, .ref q5ik])), (q5bk, .inl (cI, 15, .inl bk)), (q5nw, .inl (cI, 15, .inl nw)), (q5to, .inl (cI, 12, .inl to)), (q5ne, .inl (cI, 8, .inl ne)), (q5st, .inl (cI, 16, .inl st)), (q5pd, .inl (cI, 60, .inl pd)), (q5cn, .inl (cI, 3, .inl cn)), (q5ig, .inl (cI, 120, .inl ig)), (q5ik, .inl (cZ, 2, .inl ik))] → va_S A s.heap H locs → lv_has ls 4 [(0, .ref q5), (1, .int v1), (2, .int v2), (3, .int v3)] → L_X5_image_19 v1 v2 th si bk to ne st ik n v3 ig = some (r0, ig_o, ik_o) → W p l e rm_X5_image s m args below meth c H locs 0 0 Q (F0 m 19 ls []) := by
      intro n
      induction n with
      | zero =>
        intro v2 v3 ig ik H locs ls hP hD hS hl hs
        replace hs : (none : Option (Int32 × Ar × Ar)) = some (r0, ig_o, ik_o) := hs
        cases hs
      | succ n_19 ih_19 =>
        intro v2 v3 ig ik H locs ls hP hD hS hl hs
        replace hs : b_X5_image_19  (L_X5_image_19 v1 v2 th si bk to ne st ik n_19) v1 v2 th si bk to ne st ik v3 ig = some (r0, ig_o, ik_o) := hs
        unfold b_X5_image_19 at hs
        refine lv_iload_n hx hb dX5_image_19 rfl (lv_at hl 3 rfl) ?_
        refine lv_bipush (v := 15) hx hb dX5_image_20 (by decide) ?_
        refine lv_icmp_ge (tgt := 45) hx hb dX5_image_22 (by decide) (fun c_2 => ?_) (fun c_2 => ?_)
        · replace hs := if_p c_2 hs
          refine lv_iconst (v := 0) hx hb dX5_image_45 (by decide) ?_
          refine lv_istore_n (lv' := [(3, .int (0 : Int32)), (0, .ref q5), (1, .int v1), (2, .int v2)]) hx hb dX5_image_46 rfl hl (by decide) rfl (fun ls hl => ?_)
          have hL_47 : ∀ (n : Nat) (v2 : Int32) (v3 : Int32) (ig : Ar) (ik : Ar) (H : Heap) (locs : List Loc) (ls : Array Slot), va_P (dC, dI) vwCl [(q5, .inr (5, [.ref q5bk, .ref q5nw, .ref q5to, .int th, .ref q5ne, .int si, .ref q5st, .int sn, .ref q5pd, .int re, .int ac, .int fa, .int fw, .ref q5cn, .ref q5ig, .ref q5ik])), (q5bk, .inl (cI, 15, .inl bk)), (q5nw, .inl (cI, 15, .inl nw)), (q5to, .inl (cI, 12, .inl to)), (q5ne, .inl (cI, 8, .inl ne)), (q5st, .inl (cI, 16, .inl st)), (q5pd, .inl (cI, 60, .inl pd)), (q5cn, .inl (cI, 3, .inl cn)), (q5ig, .inl (cI, 120, .inl ig)), (q5ik, .inl (cZ, 2, .inl ik))] H → va_D A [(q5, .inr (5, [.ref q5bk, .ref q5nw, .ref q5to, .int th, .ref q5ne, .int si, .ref q5st, .int sn, .ref q5pd, .int re, .int ac, .int fa, .int fw, .ref q5cn, .ref q5ig, .ref q5ik])), (q5bk, .inl (cI, 15, .inl bk)), (q5nw, .inl (cI, 15, .inl nw)), (q5to, .inl (cI, 12, .inl to)), (q5ne, .inl (cI, 8, .inl ne)), (q5st, .inl (cI, 16, .inl st)), (q5pd, .inl (cI, 60, .inl pd)), (q5cn, .inl (cI, 3, .inl cn)), (q5ig, .inl (cI, 120, .inl ig)), (q5ik, .inl (cZ, 2, .inl ik))] → va_S A s.heap H locs → lv_has ls 4 [(0, .ref q5), (1, .int v1), (2, .int v2), (3, .int v3)] → L_X5_image_47 v1 v2 th si to ne st ik n v3 ig = some (r0, ig_o, ik_o) → W p l e rm_X5_image s m args below meth c H locs 0 0 Q (F0 m 47 ls []) := by
            intro n
            induction n with
            | zero =>
              intro v2 v3 ig ik H locs ls hP hD hS hl hs
              replace hs : (none : Option (Int32 × Ar × Ar)) = some (r0, ig_o, ik_o) := hs
              cases hs
            | succ n_47 ih_47 =>
              intro v2 v3 ig ik H locs ls hP hD hS hl hs
              replace hs : b_X5_image_47  (L_X5_image_47 v1 v2 th si to ne st ik n_47) v1 v2 th si to ne st ik v3 ig = some (r0, ig_o, ik_o) := hs
              unfold b_X5_image_47 at hs
              refine lv_iload_n hx hb dX5_image_47 rfl (lv_at hl 3 rfl) ?_
              refine lv_bipush (v := 12) hx hb dX5_image_48 (by decide) ?_
              refine lv_icmp_ge (tgt := 76) hx hb dX5_image_50 (by decide) (fun c_5 => ?_) (fun c_5 => ?_)
              · replace hs := if_p c_5 hs
                refine lv_iconst (v := 0) hx hb dX5_image_76 (by decide) ?_
                refine lv_istore_n (lv' := [(3, .int (0 : Int32)), (0, .ref q5), (1, .int v1), (2, .int v2)]) hx hb dX5_image_77 rfl hl (by decide) rfl (fun ls hl => ?_)
                have hL_78 : ∀ (n : Nat) (v2 : Int32) (v3 : Int32) (ig : Ar) (ik : Ar) (H : Heap) (locs : List Loc) (ls : Array Slot), va_P (dC, dI) vwCl [(q5, .inr (5, [.ref q5bk, .ref q5nw, .ref q5to, .int th, .ref q5ne, .int si, .ref q5st, .int sn, .ref q5pd, .int re, .int ac, .int fa, .int fw, .ref q5cn, .ref q5ig, .ref q5ik])), (q5bk, .inl (cI, 15, .inl bk)), (q5nw, .inl (cI, 15, .inl nw)), (q5to, .inl (cI, 12, .inl to)), (q5ne, .inl (cI, 8, .inl ne)), (q5st, .inl (cI, 16, .inl st)), (q5pd, .inl (cI, 60, .inl pd)), (q5cn, .inl (cI, 3, .inl cn)), (q5ig, .inl (cI, 120, .inl ig)), (q5ik, .inl (cZ, 2, .inl ik))] H → va_D A [(q5, .inr (5, [.ref q5bk, .ref q5nw, .ref q5to, .int th, .ref q5ne, .int si, .ref q5st, .int sn, .ref q5pd, .int re, .int ac, .int fa, .int fw, .ref q5cn, .ref q5ig, .ref q5ik])), (q5bk, .inl (cI, 15, .inl bk)), (q5nw, .inl (cI, 15, .inl nw)), (q5to, .inl (cI, 12, .inl to)), (q5ne, .inl (cI, 8, .inl ne)), (q5st, .inl (cI, 16, .inl st)), (q5pd, .inl (cI, 60, .inl pd)), (q5cn, .inl (cI, 3, .inl cn)), (q5ig, .inl (cI, 120, .inl ig)), (q5ik, .inl (cZ, 2, .inl ik))] → va_S A s.heap H locs → lv_has ls 4 [(0, .ref q5), (1, .int v1), (2, .int v2), (3, .int v3)] → L_X5_image_78 v1 v2 th si ne st ik n v3 ig = some (r0, ig_o, ik_o) → W p l e rm_X5_image s m args below meth c H locs 0 0 Q (F0 m 78 ls []) := by
                  intro n
                  induction n with
                  | zero =>
                    intro v2 v3 ig ik H locs ls hP hD hS hl hs
                    replace hs : (none : Option (Int32 × Ar × Ar)) = some (r0, ig_o, ik_o) := hs
                    cases hs
                  | succ n_78 ih_78 =>
                    intro v2 v3 ig ik H locs ls hP hD hS hl hs
                    replace hs : b_X5_image_78  (L_X5_image_78 v1 v2 th si ne st ik n_78) v1 v2 th si ne st ik v3 ig = some (r0, ig_o, ik_o) := hs
                    unfold b_X5_image_78 at hs
                    refine lv_iload_n hx hb dX5_image_78 rfl (lv_at hl 3 rfl) ?_
                    refine lv_bipush (v := 8) hx hb dX5_image_79 (by decide) ?_
                    refine lv_icmp_ge (tgt := 107) hx hb dX5_image_81 (by decide) (fun c_8 => ?_) (fun c_8 => ?_)
                    · replace hs := if_p c_8 hs
                      refine lv_iconst (v := 0) hx hb dX5_image_107 (by decide) ?_
                      refine lv_istore_n (lv' := [(3, .int (0 : Int32)), (0, .ref q5), (1, .int v1), (2, .int v2)]) hx hb dX5_image_108 rfl hl (by decide) rfl (fun ls hl => ?_)
                      have hL_109 : ∀ (n : Nat) (v2 : Int32) (v3 : Int32) (ig : Ar) (ik : Ar) (H : Heap) (locs : List Loc) (ls : Array Slot), va_P (dC, dI) vwCl [(q5, .inr (5, [.ref q5bk, .ref q5nw, .ref q5to, .int th, .ref q5ne, .int si, .ref q5st, .int sn, .ref q5pd, .int re, .int ac, .int fa, .int fw, .ref q5cn, .ref q5ig, .ref q5ik])), (q5bk, .inl (cI, 15, .inl bk)), (q5nw, .inl (cI, 15, .inl nw)), (q5to, .inl (cI, 12, .inl to)), (q5ne, .inl (cI, 8, .inl ne)), (q5st, .inl (cI, 16, .inl st)), (q5pd, .inl (cI, 60, .inl pd)), (q5cn, .inl (cI, 3, .inl cn)), (q5ig, .inl (cI, 120, .inl ig)), (q5ik, .inl (cZ, 2, .inl ik))] H → va_D A [(q5, .inr (5, [.ref q5bk, .ref q5nw, .ref q5to, .int th, .ref q5ne, .int si, .ref q5st, .int sn, .ref q5pd, .int re, .int ac, .int fa, .int fw, .ref q5cn, .ref q5ig, .ref q5ik])), (q5bk, .inl (cI, 15, .inl bk)), (q5nw, .inl (cI, 15, .inl nw)), (q5to, .inl (cI, 12, .inl to)), (q5ne, .inl (cI, 8, .inl ne)), (q5st, .inl (cI, 16, .inl st)), (q5pd, .inl (cI, 60, .inl pd)), (q5cn, .inl (cI, 3, .inl cn)), (q5ig, .inl (cI, 120, .inl ig)), (q5ik, .inl (cZ, 2, .inl ik))] → va_S A s.heap H locs → lv_has ls 4 [(0, .ref q5), (1, .int v1), (2, .int v2), (3, .int v3)] → L_X5_image_109 v1 v2 th si st ik n v3 ig = some (r0, ig_o, ik_o) → W p l e rm_X5_image s m args below meth c H locs 0 0 Q (F0 m 109 ls []) := by
                        intro n
                        induction n with
                        | zero =>
                          intro v2 v3 ig ik H locs ls hP hD hS hl hs
                          replace hs : (none : Option (Int32 × Ar × Ar)) = some (r0, ig_o, ik_o) := hs
                          cases hs
                        | succ n_109 ih_109 =>
                          intro v2 v3 ig ik H locs ls hP hD hS hl hs
                          replace hs : b_X5_image_109  (L_X5_image_109 v1 v2 th si st ik n_109) v1 v2 th si st ik v3 ig = some (r0, ig_o, ik_o) := hs
                          unfold b_X5_image_109 at hs
                          refine lv_iload_n hx hb dX5_image_109 rfl (lv_at hl 3 rfl) ?_
                          refine lv_bipush (v := 16) hx hb dX5_image_110 (by decide) ?_
                          refine lv_icmp_ge (tgt := 138) hx hb dX5_image_112 (by decide) (fun c_11 => ?_) (fun c_11 => ?_)
                          · replace hs := if_p c_11 hs
                            refine lv_aload_n hx hb dX5_image_138 rfl (lv_at hl 0 rfl) ?_
                            refine va_get (D := (dC, dI)) (ci := 5) (v := .ref q5ig) (C := RX5) (T := TX5) (N := 16) hx hb hts (fun w h => kg1 (iG_5 w h)) hown hK hP 0 rfl rfl 14 (by decide) (hts _ (kg1 mG_323)) (fun _ h9 => h9) rfl dX5_image_139 ?_
                            refine lv_iload_n hx hb dX5_image_142 rfl (lv_at hl 2 rfl) ?_
                            refine lv_bipush (v := 55) hx hb dX5_image_143 (by decide) ?_
                            refine lv_iadd hx hb dX5_image_145 ?_
                            refine lv_aload_n hx hb dX5_image_146 rfl (lv_at hl 0 rfl) ?_
                            refine va_get (D := (dC, dI)) (ci := 5) (v := .int th) (C := RX5) (T := TX5) (N := 16) hx hb hts (fun w h => kg1 (iG_5 w h)) hown hK hP 0 rfl rfl 3 (by decide) (hts _ (kg1 mG_337)) (fun _ h9 => h9) rfl dX5_image_147 ?_
                            obtain ⟨hg_12, hs⟩ := gd_e hs
                            refine kast hx hb hK hP hD hS 8 0 rfl rfl (j := (Int32.toNatClampNeg (v2 + (55 : Int32)))) rfl (inb_e hg_12) dX5_image_150 (fun H locs hP hD hS => ?_)
                            have hP : va_P (dC, dI) vwCl [(q5, .inr (5, [.ref q5bk, .ref q5nw, .ref q5to, .int th, .ref q5ne, .int si, .ref q5st, .int sn, .ref q5pd, .int re, .int ac, .int fa, .int fw, .ref q5cn, .ref q5ig, .ref q5ik])), (q5bk, .inl (cI, 15, .inl bk)), (q5nw, .inl (cI, 15, .inl nw)), (q5to, .inl (cI, 12, .inl to)), (q5ne, .inl (cI, 8, .inl ne)), (q5st, .inl (cI, 16, .inl st)), (q5pd, .inl (cI, 60, .inl pd)), (q5cn, .inl (cI, 3, .inl cn)), (q5ig, .inl (cI, 120, .inl (upd ig (Int32.toNatClampNeg (v2 + (55 : Int32))) th))), (q5ik, .inl (cZ, 2, .inl ik))] H := hP
                            have hD : va_D A [(q5, .inr (5, [.ref q5bk, .ref q5nw, .ref q5to, .int th, .ref q5ne, .int si, .ref q5st, .int sn, .ref q5pd, .int re, .int ac, .int fa, .int fw, .ref q5cn, .ref q5ig, .ref q5ik])), (q5bk, .inl (cI, 15, .inl bk)), (q5nw, .inl (cI, 15, .inl nw)), (q5to, .inl (cI, 12, .inl to)), (q5ne, .inl (cI, 8, .inl ne)), (q5st, .inl (cI, 16, .inl st)), (q5pd, .inl (cI, 60, .inl pd)), (q5cn, .inl (cI, 3, .inl cn)), (q5ig, .inl (cI, 120, .inl (upd ig (Int32.toNatClampNeg (v2 + (55 : Int32))) th))), (q5ik, .inl (cZ, 2, .inl ik))] := hD
                            refine lv_aload_n hx hb dX5_image_151 rfl (lv_at hl 0 rfl) ?_
                            refine va_get (D := (dC, dI)) (ci := 5) (v := .ref q5ig) (C := RX5) (T := TX5) (N := 16) hx hb hts (fun w h => kg1 (iG_5 w h)) hown hK hP 0 rfl rfl 14 (by decide) (hts _ (kg1 mG_323)) (fun _ h9 => h9) rfl dX5_image_152 ?_
                            refine lv_iload_n hx hb dX5_image_155 rfl (lv_at hl 2 rfl) ?_
                            refine lv_bipush (v := 56) hx hb dX5_image_156 (by decide) ?_
                            refine lv_iadd hx hb dX5_image_158 ?_
                            refine lv_aload_n hx hb dX5_image_159 rfl (lv_at hl 0 rfl) ?_
                            refine va_get (D := (dC, dI)) (ci := 5) (v := .int si) (C := RX5) (T := TX5) (N := 16) hx hb hts (fun w h => kg1 (iG_5 w h)) hown hK hP 0 rfl rfl 5 (by decide) (hts _ (kg1 mG_414)) (fun _ h9 => h9) rfl dX5_image_160 ?_
                            obtain ⟨hg_13, hs⟩ := gd_e hs
                            refine kast hx hb hK hP hD hS 8 0 rfl rfl (j := (Int32.toNatClampNeg (v2 + (56 : Int32)))) rfl (inb_e hg_13) dX5_image_163 (fun H locs hP hD hS => ?_)
                            have hP : va_P (dC, dI) vwCl [(q5, .inr (5, [.ref q5bk, .ref q5nw, .ref q5to, .int th, .ref q5ne, .int si, .ref q5st, .int sn, .ref q5pd, .int re, .int ac, .int fa, .int fw, .ref q5cn, .ref q5ig, .ref q5ik])), (q5bk, .inl (cI, 15, .inl bk)), (q5nw, .inl (cI, 15, .inl nw)), (q5to, .inl (cI, 12, .inl to)), (q5ne, .inl (cI, 8, .inl ne)), (q5st, .inl (cI, 16, .inl st)), (q5pd, .inl (cI, 60, .inl pd)), (q5cn, .inl (cI, 3, .inl cn)), (q5ig, .inl (cI, 120, .inl (upd (upd ig (Int32.toNatClampNeg (v2 + (55 : Int32))) th) (Int32.toNatClampNeg (v2 + (56 : Int32))) si))), (q5ik, .inl (cZ, 2, .inl ik))] H := hP
                            have hD : va_D A [(q5, .inr (5, [.ref q5bk, .ref q5nw, .ref q5to, .int th, .ref q5ne, .int si, .ref q5st, .int sn, .ref q5pd, .int re, .int ac, .int fa, .int fw, .ref q5cn, .ref q5ig, .ref q5ik])), (q5bk, .inl (cI, 15, .inl bk)), (q5nw, .inl (cI, 15, .inl nw)), (q5to, .inl (cI, 12, .inl to)), (q5ne, .inl (cI, 8, .inl ne)), (q5st, .inl (cI, 16, .inl st)), (q5pd, .inl (cI, 60, .inl pd)), (q5cn, .inl (cI, 3, .inl cn)), (q5ig, .inl (cI, 120, .inl (upd (upd ig (Int32.toNatClampNeg (v2 + (55 : Int32))) th) (Int32.toNatClampNeg (v2 + (56 : Int32))) si))), (q5ik, .inl (cZ, 2, .inl ik))] := hD
                            refine lv_aload_n hx hb dX5_image_164 rfl (lv_at hl 0 rfl) ?_
                            refine va_get (D := (dC, dI)) (ci := 5) (v := .ref q5ik) (C := RX5) (T := TX5) (N := 16) hx hb hts (fun w h => kg1 (iG_5 w h)) hown hK hP 0 rfl rfl 15 (by decide) (hts _ (kg1 mG_325)) (fun _ h9 => h9) rfl dX5_image_165 ?_
                            refine lv_iload_n hx hb dX5_image_168 rfl (lv_at hl 1 rfl) ?_
                            refine lv_iconst (v := 1) hx hb dX5_image_169 (by decide) ?_
                            obtain ⟨hg_14, hs⟩ := gd_e hs
                            refine kzst hx hb hK hP hD hS 9 1 rfl rfl (j := (Int32.toNatClampNeg v1)) rfl (inb_e hg_14) dX5_image_170 (fun H locs hP hD hS => ?_)
                            have hP : va_P (dC, dI) vwCl [(q5, .inr (5, [.ref q5bk, .ref q5nw, .ref q5to, .int th, .ref q5ne, .int si, .ref q5st, .int sn, .ref q5pd, .int re, .int ac, .int fa, .int fw, .ref q5cn, .ref q5ig, .ref q5ik])), (q5bk, .inl (cI, 15, .inl bk)), (q5nw, .inl (cI, 15, .inl nw)), (q5to, .inl (cI, 12, .inl to)), (q5ne, .inl (cI, 8, .inl ne)), (q5st, .inl (cI, 16, .inl st)), (q5pd, .inl (cI, 60, .inl pd)), (q5cn, .inl (cI, 3, .inl cn)), (q5ig, .inl (cI, 120, .inl (upd (upd ig (Int32.toNatClampNeg (v2 + (55 : Int32))) th) (Int32.toNatClampNeg (v2 + (56 : Int32))) si))), (q5ik, .inl (cZ, 2, .inl (upd ik (Int32.toNatClampNeg v1) (1 : Int32))))] H := hP
                            have hD : va_D A [(q5, .inr (5, [.ref q5bk, .ref q5nw, .ref q5to, .int th, .ref q5ne, .int si, .ref q5st, .int sn, .ref q5pd, .int re, .int ac, .int fa, .int fw, .ref q5cn, .ref q5ig, .ref q5ik])), (q5bk, .inl (cI, 15, .inl bk)), (q5nw, .inl (cI, 15, .inl nw)), (q5to, .inl (cI, 12, .inl to)), (q5ne, .inl (cI, 8, .inl ne)), (q5st, .inl (cI, 16, .inl st)), (q5pd, .inl (cI, 60, .inl pd)), (q5cn, .inl (cI, 3, .inl cn)), (q5ig, .inl (cI, 120, .inl (upd (upd ig (Int32.toNatClampNeg (v2 + (55 : Int32))) th) (Int32.toNatClampNeg (v2 + (56 : Int32))) si))), (q5ik, .inl (cZ, 2, .inl (upd ik (Int32.toNatClampNeg v1) (1 : Int32))))] := hD
                            refine lv_iconst (v := 1) hx hb dX5_image_171 (by decide) ?_
                            cases hs
                            exact hret _ _ _ _ hP hD hS (vp_nar_int _) dX5_image_172
                          · replace hs := if_n c_11 hs
                            refine lv_aload_n hx hb dX5_image_115 rfl (lv_at hl 0 rfl) ?_
                            refine va_get (D := (dC, dI)) (ci := 5) (v := .ref q5ig) (C := RX5) (T := TX5) (N := 16) hx hb hts (fun w h => kg1 (iG_5 w h)) hown hK hP 0 rfl rfl 14 (by decide) (hts _ (kg1 mG_323)) (fun _ h9 => h9) rfl dX5_image_116 ?_
                            refine lv_iload_n hx hb dX5_image_119 rfl (lv_at hl 2 rfl) ?_
                            refine lv_bipush (v := 35) hx hb dX5_image_120 (by decide) ?_
                            refine lv_iadd hx hb dX5_image_122 ?_
                            refine lv_iload_n hx hb dX5_image_123 rfl (lv_at hl 3 rfl) ?_
                            refine lv_iadd hx hb dX5_image_124 ?_
                            refine lv_aload_n hx hb dX5_image_125 rfl (lv_at hl 0 rfl) ?_
                            refine va_get (D := (dC, dI)) (ci := 5) (v := .ref q5st) (C := RX5) (T := TX5) (N := 16) hx hb hts (fun w h => kg1 (iG_5 w h)) hown hK hP 0 rfl rfl 6 (by decide) (hts _ (kg1 mG_320)) (fun _ h9 => h9) rfl dX5_image_126 ?_
                            refine lv_iload_n hx hb dX5_image_129 rfl (lv_at hl 3 rfl) ?_
                            obtain ⟨hg_15, hs⟩ := gd_e hs
                            refine kald hx hb hK hP 5 0 rfl rfl (j := (Int32.toNatClampNeg v3)) rfl (inb_e hg_15) dX5_image_130 ?_
                            obtain ⟨hg_16, hs⟩ := gd_e hs
                            refine kast hx hb hK hP hD hS 8 0 rfl rfl (j := (Int32.toNatClampNeg ((v2 + (35 : Int32)) + v3))) rfl (inb_e hg_16) dX5_image_131 (fun H locs hP hD hS => ?_)
                            have hP : va_P (dC, dI) vwCl [(q5, .inr (5, [.ref q5bk, .ref q5nw, .ref q5to, .int th, .ref q5ne, .int si, .ref q5st, .int sn, .ref q5pd, .int re, .int ac, .int fa, .int fw, .ref q5cn, .ref q5ig, .ref q5ik])), (q5bk, .inl (cI, 15, .inl bk)), (q5nw, .inl (cI, 15, .inl nw)), (q5to, .inl (cI, 12, .inl to)), (q5ne, .inl (cI, 8, .inl ne)), (q5st, .inl (cI, 16, .inl st)), (q5pd, .inl (cI, 60, .inl pd)), (q5cn, .inl (cI, 3, .inl cn)), (q5ig, .inl (cI, 120, .inl (upd ig (Int32.toNatClampNeg ((v2 + (35 : Int32)) + v3)) (st (Int32.toNatClampNeg v3))))), (q5ik, .inl (cZ, 2, .inl ik))] H := hP
                            have hD : va_D A [(q5, .inr (5, [.ref q5bk, .ref q5nw, .ref q5to, .int th, .ref q5ne, .int si, .ref q5st, .int sn, .ref q5pd, .int re, .int ac, .int fa, .int fw, .ref q5cn, .ref q5ig, .ref q5ik])), (q5bk, .inl (cI, 15, .inl bk)), (q5nw, .inl (cI, 15, .inl nw)), (q5to, .inl (cI, 12, .inl to)), (q5ne, .inl (cI, 8, .inl ne)), (q5st, .inl (cI, 16, .inl st)), (q5pd, .inl (cI, 60, .inl pd)), (q5cn, .inl (cI, 3, .inl cn)), (q5ig, .inl (cI, 120, .inl (upd ig (Int32.toNatClampNeg ((v2 + (35 : Int32)) + v3)) (st (Int32.toNatClampNeg v3))))), (q5ik, .inl (cZ, 2, .inl ik))] := hD
                            refine lv_iinc (v := (v3 + 1)) (lv' := [(3, .int (v3 + 1)), (0, .ref q5), (1, .int v1), (2, .int v2)]) hx hb dX5_image_132 hl (k := 3) rfl rfl (by decide) rfl (fun ls hl => ?_)
                            refine lv_goto (tgt := 109) hx hb dX5_image_135 (by decide) ?_
                            exact ih_109 v2 (v3 + 1) (upd ig (Int32.toNatClampNeg ((v2 + (35 : Int32)) + v3)) (st (Int32.toNatClampNeg v3))) ik _ _ _ hP hD hS (lv_sub hl [1, 2, 3, 0] rfl) hs
                      exact hL_109 fu v2 (0 : Int32) ig ik _ _ _ hP hD hS (lv_sub hl [1, 2, 3, 0] rfl) hs
                    · replace hs := if_n c_8 hs
                      refine lv_aload_n hx hb dX5_image_84 rfl (lv_at hl 0 rfl) ?_
                      refine va_get (D := (dC, dI)) (ci := 5) (v := .ref q5ig) (C := RX5) (T := TX5) (N := 16) hx hb hts (fun w h => kg1 (iG_5 w h)) hown hK hP 0 rfl rfl 14 (by decide) (hts _ (kg1 mG_323)) (fun _ h9 => h9) rfl dX5_image_85 ?_
                      refine lv_iload_n hx hb dX5_image_88 rfl (lv_at hl 2 rfl) ?_
                      refine lv_bipush (v := 27) hx hb dX5_image_89 (by decide) ?_
                      refine lv_iadd hx hb dX5_image_91 ?_
                      refine lv_iload_n hx hb dX5_image_92 rfl (lv_at hl 3 rfl) ?_
                      refine lv_iadd hx hb dX5_image_93 ?_
                      refine lv_aload_n hx hb dX5_image_94 rfl (lv_at hl 0 rfl) ?_
                      refine va_get (D := (dC, dI)) (ci := 5) (v := .ref q5ne) (C := RX5) (T := TX5) (N := 16) hx hb hts (fun w h => kg1 (iG_5 w h)) hown hK hP 0 rfl rfl 4 (by decide) (hts _ (kg1 mG_319)) (fun _ h9 => h9) rfl dX5_image_95 ?_
                      refine lv_iload_n hx hb dX5_image_98 rfl (lv_at hl 3 rfl) ?_
                      obtain ⟨hg_9, hs⟩ := gd_e hs
                      refine kald hx hb hK hP 4 0 rfl rfl (j := (Int32.toNatClampNeg v3)) rfl (inb_e hg_9) dX5_image_99 ?_
                      obtain ⟨hg_10, hs⟩ := gd_e hs
                      refine kast hx hb hK hP hD hS 8 0 rfl rfl (j := (Int32.toNatClampNeg ((v2 + (27 : Int32)) + v3))) rfl (inb_e hg_10) dX5_image_100 (fun H locs hP hD hS => ?_)
                      have hP : va_P (dC, dI) vwCl [(q5, .inr (5, [.ref q5bk, .ref q5nw, .ref q5to, .int th, .ref q5ne, .int si, .ref q5st, .int sn, .ref q5pd, .int re, .int ac, .int fa, .int fw, .ref q5cn, .ref q5ig, .ref q5ik])), (q5bk, .inl (cI, 15, .inl bk)), (q5nw, .inl (cI, 15, .inl nw)), (q5to, .inl (cI, 12, .inl to)), (q5ne, .inl (cI, 8, .inl ne)), (q5st, .inl (cI, 16, .inl st)), (q5pd, .inl (cI, 60, .inl pd)), (q5cn, .inl (cI, 3, .inl cn)), (q5ig, .inl (cI, 120, .inl (upd ig (Int32.toNatClampNeg ((v2 + (27 : Int32)) + v3)) (ne (Int32.toNatClampNeg v3))))), (q5ik, .inl (cZ, 2, .inl ik))] H := hP
                      have hD : va_D A [(q5, .inr (5, [.ref q5bk, .ref q5nw, .ref q5to, .int th, .ref q5ne, .int si, .ref q5st, .int sn, .ref q5pd, .int re, .int ac, .int fa, .int fw, .ref q5cn, .ref q5ig, .ref q5ik])), (q5bk, .inl (cI, 15, .inl bk)), (q5nw, .inl (cI, 15, .inl nw)), (q5to, .inl (cI, 12, .inl to)), (q5ne, .inl (cI, 8, .inl ne)), (q5st, .inl (cI, 16, .inl st)), (q5pd, .inl (cI, 60, .inl pd)), (q5cn, .inl (cI, 3, .inl cn)), (q5ig, .inl (cI, 120, .inl (upd ig (Int32.toNatClampNeg ((v2 + (27 : Int32)) + v3)) (ne (Int32.toNatClampNeg v3))))), (q5ik, .inl (cZ, 2, .inl ik))] := hD
                      refine lv_iinc (v := (v3 + 1)) (lv' := [(3, .int (v3 + 1)), (0, .ref q5), (1, .int v1), (2, .int v2)]) hx hb dX5_image_101 hl (k := 3) rfl rfl (by decide) rfl (fun ls hl => ?_)
                      refine lv_goto (tgt := 78) hx hb dX5_image_104 (by decide) ?_
                      exact ih_78 v2 (v3 + 1) (upd ig (Int32.toNatClampNeg ((v2 + (27 : Int32)) + v3)) (ne (Int32.toNatClampNeg v3))) ik _ _ _ hP hD hS (lv_sub hl [1, 2, 3, 0] rfl) hs
                exact hL_78 fu v2 (0 : Int32) ig ik _ _ _ hP hD hS (lv_sub hl [1, 2, 3, 0] rfl) hs
              · replace hs := if_n c_5 hs
                refine lv_aload_n hx hb dX5_image_53 rfl (lv_at hl 0 rfl) ?_
                refine va_get (D := (dC, dI)) (ci := 5) (v := .ref q5ig) (C := RX5) (T := TX5) (N := 16) hx hb hts (fun w h => kg1 (iG_5 w h)) hown hK hP 0 rfl rfl 14 (by decide) (hts _ (kg1 mG_323)) (fun _ h9 => h9) rfl dX5_image_54 ?_
                refine lv_iload_n hx hb dX5_image_57 rfl (lv_at hl 2 rfl) ?_
                refine lv_bipush (v := 15) hx hb dX5_image_58 (by decide) ?_
                refine lv_iadd hx hb dX5_image_60 ?_
                refine lv_iload_n hx hb dX5_image_61 rfl (lv_at hl 3 rfl) ?_
                refine lv_iadd hx hb dX5_image_62 ?_
                refine lv_aload_n hx hb dX5_image_63 rfl (lv_at hl 0 rfl) ?_
                refine va_get (D := (dC, dI)) (ci := 5) (v := .ref q5to) (C := RX5) (T := TX5) (N := 16) hx hb hts (fun w h => kg1 (iG_5 w h)) hown hK hP 0 rfl rfl 2 (by decide) (hts _ (kg1 mG_318)) (fun _ h9 => h9) rfl dX5_image_64 ?_
                refine lv_iload_n hx hb dX5_image_67 rfl (lv_at hl 3 rfl) ?_
                obtain ⟨hg_6, hs⟩ := gd_e hs
                refine kald hx hb hK hP 3 0 rfl rfl (j := (Int32.toNatClampNeg v3)) rfl (inb_e hg_6) dX5_image_68 ?_
                obtain ⟨hg_7, hs⟩ := gd_e hs
                refine kast hx hb hK hP hD hS 8 0 rfl rfl (j := (Int32.toNatClampNeg ((v2 + (15 : Int32)) + v3))) rfl (inb_e hg_7) dX5_image_69 (fun H locs hP hD hS => ?_)
                have hP : va_P (dC, dI) vwCl [(q5, .inr (5, [.ref q5bk, .ref q5nw, .ref q5to, .int th, .ref q5ne, .int si, .ref q5st, .int sn, .ref q5pd, .int re, .int ac, .int fa, .int fw, .ref q5cn, .ref q5ig, .ref q5ik])), (q5bk, .inl (cI, 15, .inl bk)), (q5nw, .inl (cI, 15, .inl nw)), (q5to, .inl (cI, 12, .inl to)), (q5ne, .inl (cI, 8, .inl ne)), (q5st, .inl (cI, 16, .inl st)), (q5pd, .inl (cI, 60, .inl pd)), (q5cn, .inl (cI, 3, .inl cn)), (q5ig, .inl (cI, 120, .inl (upd ig (Int32.toNatClampNeg ((v2 + (15 : Int32)) + v3)) (to (Int32.toNatClampNeg v3))))), (q5ik, .inl (cZ, 2, .inl ik))] H := hP
                have hD : va_D A [(q5, .inr (5, [.ref q5bk, .ref q5nw, .ref q5to, .int th, .ref q5ne, .int si, .ref q5st, .int sn, .ref q5pd, .int re, .int ac, .int fa, .int fw, .ref q5cn, .ref q5ig, .ref q5ik])), (q5bk, .inl (cI, 15, .inl bk)), (q5nw, .inl (cI, 15, .inl nw)), (q5to, .inl (cI, 12, .inl to)), (q5ne, .inl (cI, 8, .inl ne)), (q5st, .inl (cI, 16, .inl st)), (q5pd, .inl (cI, 60, .inl pd)), (q5cn, .inl (cI, 3, .inl cn)), (q5ig, .inl (cI, 120, .inl (upd ig (Int32.toNatClampNeg ((v2 + (15 : Int32)) + v3)) (to (Int32.toNatClampNeg v3))))), (q5ik, .inl (cZ, 2, .inl ik))] := hD
                refine lv_iinc (v := (v3 + 1)) (lv' := [(3, .int (v3 + 1)), (0, .ref q5), (1, .int v1), (2, .int v2)]) hx hb dX5_image_70 hl (k := 3) rfl rfl (by decide) rfl (fun ls hl => ?_)
                refine lv_goto (tgt := 47) hx hb dX5_image_73 (by decide) ?_
                exact ih_47 v2 (v3 + 1) (upd ig (Int32.toNatClampNeg ((v2 + (15 : Int32)) + v3)) (to (Int32.toNatClampNeg v3))) ik _ _ _ hP hD hS (lv_sub hl [1, 2, 3, 0] rfl) hs
          exact hL_47 fu v2 (0 : Int32) ig ik _ _ _ hP hD hS (lv_sub hl [1, 2, 3, 0] rfl) hs
        · replace hs := if_n c_2 hs
          refine lv_aload_n hx hb dX5_image_25 rfl (lv_at hl 0 rfl) ?_
          refine va_get (D := (dC, dI)) (ci := 5) (v := .ref q5ig) (C := RX5) (T := TX5) (N := 16) hx hb hts (fun w h => kg1 (iG_5 w h)) hown hK hP 0 rfl rfl 14 (by decide) (hts _ (kg1 mG_323)) (fun _ h9 => h9) rfl dX5_image_26 ?_
          refine lv_iload_n hx hb dX5_image_29 rfl (lv_at hl 2 rfl) ?_
          refine lv_iload_n hx hb dX5_image_30 rfl (lv_at hl 3 rfl) ?_
          refine lv_iadd hx hb dX5_image_31 ?_
          refine lv_aload_n hx hb dX5_image_32 rfl (lv_at hl 0 rfl) ?_
          refine va_get (D := (dC, dI)) (ci := 5) (v := .ref q5bk) (C := RX5) (T := TX5) (N := 16) hx hb hts (fun w h => kg1 (iG_5 w h)) hown hK hP 0 rfl rfl 0 (by decide) (hts _ (kg1 mG_316)) (fun _ h9 => h9) rfl dX5_image_33 ?_
          refine lv_iload_n hx hb dX5_image_36 rfl (lv_at hl 3 rfl) ?_
          obtain ⟨hg_3, hs⟩ := gd_e hs
          refine kald hx hb hK hP 1 0 rfl rfl (j := (Int32.toNatClampNeg v3)) rfl (inb_e hg_3) dX5_image_37 ?_
          obtain ⟨hg_4, hs⟩ := gd_e hs
          refine kast hx hb hK hP hD hS 8 0 rfl rfl (j := (Int32.toNatClampNeg (v2 + v3))) rfl (inb_e hg_4) dX5_image_38 (fun H locs hP hD hS => ?_)
          have hP : va_P (dC, dI) vwCl [(q5, .inr (5, [.ref q5bk, .ref q5nw, .ref q5to, .int th, .ref q5ne, .int si, .ref q5st, .int sn, .ref q5pd, .int re, .int ac, .int fa, .int fw, .ref q5cn, .ref q5ig, .ref q5ik])), (q5bk, .inl (cI, 15, .inl bk)), (q5nw, .inl (cI, 15, .inl nw)), (q5to, .inl (cI, 12, .inl to)), (q5ne, .inl (cI, 8, .inl ne)), (q5st, .inl (cI, 16, .inl st)), (q5pd, .inl (cI, 60, .inl pd)), (q5cn, .inl (cI, 3, .inl cn)), (q5ig, .inl (cI, 120, .inl (upd ig (Int32.toNatClampNeg (v2 + v3)) (bk (Int32.toNatClampNeg v3))))), (q5ik, .inl (cZ, 2, .inl ik))] H := hP
          have hD : va_D A [(q5, .inr (5, [.ref q5bk, .ref q5nw, .ref q5to, .int th, .ref q5ne, .int si, .ref q5st, .int sn, .ref q5pd, .int re, .int ac, .int fa, .int fw, .ref q5cn, .ref q5ig, .ref q5ik])), (q5bk, .inl (cI, 15, .inl bk)), (q5nw, .inl (cI, 15, .inl nw)), (q5to, .inl (cI, 12, .inl to)), (q5ne, .inl (cI, 8, .inl ne)), (q5st, .inl (cI, 16, .inl st)), (q5pd, .inl (cI, 60, .inl pd)), (q5cn, .inl (cI, 3, .inl cn)), (q5ig, .inl (cI, 120, .inl (upd ig (Int32.toNatClampNeg (v2 + v3)) (bk (Int32.toNatClampNeg v3))))), (q5ik, .inl (cZ, 2, .inl ik))] := hD
          refine lv_iinc (v := (v3 + 1)) (lv' := [(3, .int (v3 + 1)), (0, .ref q5), (1, .int v1), (2, .int v2)]) hx hb dX5_image_39 hl (k := 3) rfl rfl (by decide) rfl (fun ls hl => ?_)
          refine lv_goto (tgt := 19) hx hb dX5_image_42 (by decide) ?_
          exact ih_19 v2 (v3 + 1) (upd ig (Int32.toNatClampNeg (v2 + v3)) (bk (Int32.toNatClampNeg v3))) ik _ _ _ hP hD hS (lv_sub hl [1, 2, 3, 0] rfl) hs
    exact hL_19 fu ((60 : Int32) * v1) (0 : Int32) ig ik _ _ _ hP hD hS (lv_sub hl [2, 3, 1, 0] rfl) hs
  · replace hs := if_p c_1 hs
    refine lv_bipush (v := -2) hx hb dX5_image_9 (by decide) ?_
    cases hs
    exact hret _ _ _ _ hP hD hS (vp_nar_int _) dX5_image_11
abbrev rm_X5_restore : Room := { frames := 1, cells := 0, slots := 0, locals := 22 }
theorem hd_X5_restore : yX5_restore.cls ≠ "java/lang/invoke/MethodHandle" ∧ yX5_restore.cls ≠ "java/lang/invoke/VarHandle" ∧ (parseMethodDescriptor yX5_restore.desc).map (fun d => d.parameters.length) = some 1 := by decide +kernel
set_option maxHeartbeats 4000000 in
set_option maxRecDepth 100000 in
theorem k_X5_restore (l : Launch) (dC : Nat → ClassId) (dI : Nat → Nat → Nat) (cI cZ cS : ClassId) (q5 q5bk q5nw q5to q5ne q5st q5pd q5cn q5ig q5ik : Nat) (sz : Nat) (th : Int32) (si : Int32) (sn : Int32) (re : Int32) (ac : Int32) (fa : Int32) (fw : Int32) (bk : Ar) (nw : Ar) (to : Ar) (ne : Ar) (st : Ar) (pd : Ar) (cn : Ar) (ig : Ar) (ik : Ar) (v1 : Int32) (r0 : Int32) (th_o : Int32) (si_o : Int32) (bk_o : Ar) (to_o : Ar) (ne_o : Ar) (st_o : Ar) (hs : m_X5_restore v1 th si bk to ne st ig ik = some (r0, th_o, si_o, bk_o, to_o, ne_o, st_o)) : Met l yX5_restore (.code yX5_restore cX5_restore 4 (some .int) :: kG) rm_X5_restore (va_Pc [.ref q5, .int v1] (kW (dC, dI) cI cZ cS [(q5, .inr (5, [.ref q5bk, .ref q5nw, .ref q5to, .int th, .ref q5ne, .int si, .ref q5st, .int sn, .ref q5pd, .int re, .int ac, .int fa, .int fw, .ref q5cn, .ref q5ig, .ref q5ik])), (q5bk, .inl (cI, 15, .inl bk)), (q5nw, .inl (cI, 15, .inl nw)), (q5to, .inl (cI, 12, .inl to)), (q5ne, .inl (cI, 8, .inl ne)), (q5st, .inl (cI, 16, .inl st)), (q5pd, .inl (cI, 60, .inl pd)), (q5cn, .inl (cI, 3, .inl cn)), (q5ig, .inl (cI, 120, .inl ig)), (q5ik, .inl (cZ, 2, .inl ik))] sz)) (kQi (dC, dI) [(q5, .inr (5, [.ref q5bk, .ref q5nw, .ref q5to, .int th, .ref q5ne, .int si, .ref q5st, .int sn, .ref q5pd, .int re, .int ac, .int fa, .int fw, .ref q5cn, .ref q5ig, .ref q5ik])), (q5bk, .inl (cI, 15, .inl bk)), (q5nw, .inl (cI, 15, .inl nw)), (q5to, .inl (cI, 12, .inl to)), (q5ne, .inl (cI, 8, .inl ne)), (q5st, .inl (cI, 16, .inl st)), (q5pd, .inl (cI, 60, .inl pd)), (q5cn, .inl (cI, 3, .inl cn)), (q5ig, .inl (cI, 120, .inl ig)), (q5ik, .inl (cZ, 2, .inl ik))] [(q5, .inr (5, [.ref q5bk, .ref q5nw, .ref q5to, .int th_o, .ref q5ne, .int si_o, .ref q5st, .int sn, .ref q5pd, .int re, .int ac, .int fa, .int fw, .ref q5cn, .ref q5ig, .ref q5ik])), (q5bk, .inl (cI, 15, .inl bk_o)), (q5nw, .inl (cI, 15, .inl nw)), (q5to, .inl (cI, 12, .inl to_o)), (q5ne, .inl (cI, 8, .inl ne_o)), (q5st, .inl (cI, 16, .inl st_o)), (q5pd, .inl (cI, 60, .inl pd)), (q5cn, .inl (cI, 3, .inl cn)), (q5ig, .inl (cI, 120, .inl ig)), (q5ik, .inl (cZ, 2, .inl ik))] sz r0) 0 0 (va_A [(q5, .inr (5, [.ref q5bk, .ref q5nw, .ref q5to, .int th, .ref q5ne, .int si, .ref q5st, .int sn, .ref q5pd, .int re, .int ac, .int fa, .int fw, .ref q5cn, .ref q5ig, .ref q5ik])), (q5bk, .inl (cI, 15, .inl bk)), (q5nw, .inl (cI, 15, .inl nw)), (q5to, .inl (cI, 12, .inl to)), (q5ne, .inl (cI, 8, .inl ne)), (q5st, .inl (cI, 16, .inl st)), (q5pd, .inl (cI, 60, .inl pd)), (q5cn, .inl (cI, 3, .inl cn)), (q5ig, .inl (cI, 120, .inl ig)), (q5ik, .inl (cZ, 2, .inl ik))] sz) := by
  refine kMi (own := RX5) (ty := .int) rfl (by decide) rfl ?_ (Nat.le_of_ble_eq_true rfl)
  intro p e s m args below meth c Q A CF hK hN hA hP hD hret ls hl
  have hS : va_S A s.heap s.heap [] := va_S.rf
  obtain ⟨hx, hb, hml, hown, hts⟩ := id CF
  have hl : lv_has ls 4 [(0, .ref q5), (1, .int v1)] := hl
  unfold m_X5_restore at hs
  refine lv_iload_n hx hb dX5_restore_0 rfl (lv_at hl 1 rfl) ?_
  refine lv_iconst (v := 0) hx hb dX5_restore_1 (by decide) ?_
  refine lv_iconst (v := 1) hx hb dX5_restore_2 (by decide) ?_
  refine kpi (va_runS (As := [.int v1, .int (0 : Int32), .int (1 : Int32)]) (rest := []) ⟨hx, hb, hml, hown, hts⟩ (k_X5_in l v1 (0 : Int32) (1 : Int32) _ rfl) (va_cwS 3 hts (kGood (kgS mG_330 mG_331 mG_332 mG_326)) rfl rfl rfl hd_X5_in ⟨Nat.le_of_ble_eq_true rfl, Nat.le_of_ble_eq_true rfl⟩) preEq rfl rfl hl.1 rfl (lv_room (Nat.le_of_ble_eq_true rfl)) dX5_restore_3 ⟨Nat.zero_le _, Nat.zero_le _⟩) ?_
  refine lv_if_ne (tgt := 12) hx hb dX5_restore_6 (by decide) (fun c_1 => ?_) (fun c_1 => ?_)
  · replace hs := if_n c_1 hs
    refine lv_aload_n hx hb dX5_restore_12 rfl (lv_at hl 0 rfl) ?_
    refine va_get (D := (dC, dI)) (ci := 5) (v := .ref q5ik) (C := RX5) (T := TX5) (N := 16) hx hb hts (fun w h => kg1 (iG_5 w h)) hown hK hP 0 rfl rfl 15 (by decide) (hts _ (kg1 mG_325)) (fun _ h9 => h9) rfl dX5_restore_13 ?_
    refine lv_iload_n hx hb dX5_restore_16 rfl (lv_at hl 1 rfl) ?_
    obtain ⟨hg_2, hs⟩ := gd_e hs
    refine kzld hx hb hK hP 9 1 rfl rfl (j := (Int32.toNatClampNeg v1)) rfl (inb_e hg_2) dX5_restore_17 ?_
    refine lv_if_ne (tgt := 24) hx hb dX5_restore_18 (by decide) (fun c_3 => ?_) (fun c_3 => ?_)
    · replace hs := if_n c_3 hs
      refine lv_bipush (v := 60) hx hb dX5_restore_24 (by decide) ?_
      refine lv_iload_n hx hb dX5_restore_26 rfl (lv_at hl 1 rfl) ?_
      refine lv_imul hx hb dX5_restore_27 ?_
      refine lv_istore_n (lv' := [(2, .int ((60 : Int32) * v1)), (0, .ref q5), (1, .int v1)]) hx hb dX5_restore_28 rfl hl (by decide) rfl (fun ls hl => ?_)
      refine lv_iconst (v := 0) hx hb dX5_restore_29 (by decide) ?_
      refine lv_istore_n (lv' := [(3, .int (0 : Int32)), (2, .int ((60 : Int32) * v1)), (0, .ref q5), (1, .int v1)]) hx hb dX5_restore_30 rfl hl (by decide) rfl (fun ls hl => ?_)
      have hL_31 : ∀ (n : Nat) (v2 : Int32) (v3 : Int32) (th : Int32) (si : Int32) (bk : Ar) (to : Ar) (ne : Ar) (st : Ar) (H : Heap) (locs : List Loc) (ls : Array Slot), va_P (dC, dI) vwCl [(q5, .inr (5, [.ref q5bk, .ref q5nw, .ref q5to, .int th, .ref q5ne, .int si, .ref q5st, .int sn, .ref q5pd, .int re, .int ac, .int fa, .int fw, .ref q5cn, .ref q5ig, .ref q5ik])), (q5bk, .inl (cI, 15, .inl bk)), (q5nw, .inl (cI, 15, .inl nw)), (q5to, .inl (cI, 12, .inl to)), (q5ne, .inl (cI, 8, .inl ne)), (q5st, .inl (cI, 16, .inl st)), (q5pd, .inl (cI, 60, .inl pd)), (q5cn, .inl (cI, 3, .inl cn)), (q5ig, .inl (cI, 120, .inl ig)), (q5ik, .inl (cZ, 2, .inl ik))] H → va_D A [(q5, .inr (5, [.ref q5bk, .ref q5nw, .ref q5to, .int th, .ref q5ne, .int si, .ref q5st, .int sn, .ref q5pd, .int re, .int ac, .int fa, .int fw, .ref q5cn, .ref q5ig, .ref q5ik])), (q5bk, .inl (cI, 15, .inl bk)), (q5nw, .inl (cI, 15, .inl nw)), (q5to, .inl (cI, 12, .inl to)), (q5ne, .inl (cI, 8, .inl ne)), (q5st, .inl (cI, 16, .inl st)), (q5pd, .inl (cI, 60, .inl pd)), (q5cn, .inl (cI, 3, .inl cn)), (q5ig, .inl (cI, 120, .inl ig)), (q5ik, .inl (cZ, 2, .inl ik))] → va_S A s.heap H locs → lv_has ls 4 [(0, .ref q5), (2, .int v2), (3, .int v3)] → L_X5_restore_31 v2 to ne st ig n v3 bk = some (r0, th_o, si_o, bk_o, to_o, ne_o, st_o) → W p l e rm_X5_restore s m args below meth c H locs 0 0 Q (F0 m 31 ls []) := by
        intro n
        induction n with
        | zero =>
          intro v2 v3 th si bk to ne st H locs ls hP hD hS hl hs
          replace hs : (none : Option (Int32 × Int32 × Int32 × Ar × Ar × Ar × Ar)) = some (r0, th_o, si_o, bk_o, to_o, ne_o, st_o) := hs
          cases hs
        | succ n_31 ih_31 =>
          intro v2 v3 th si bk to ne st H locs ls hP hD hS hl hs
          replace hs : b_X5_restore_31  (L_X5_restore_31 v2 to ne st ig n_31) v2 to ne st ig v3 bk = some (r0, th_o, si_o, bk_o, to_o, ne_o, st_o) := hs
          unfold b_X5_restore_31 at hs
          refine lv_iload_n hx hb dX5_restore_31 rfl (lv_at hl 2 rfl) ?_
          refine lv_bipush (v := 15) hx hb dX5_restore_32 (by decide) ?_
          refine lv_icmp_ge (tgt := 57) hx hb dX5_restore_34 (by decide) (fun c_4 => ?_) (fun c_4 => ?_)
          · replace hs := if_p c_4 hs
            refine lv_iconst (v := 0) hx hb dX5_restore_57 (by decide) ?_
            refine lv_istore_n (lv' := [(3, .int (0 : Int32)), (0, .ref q5), (2, .int v2)]) hx hb dX5_restore_58 rfl hl (by decide) rfl (fun ls hl => ?_)
            have hL_59 : ∀ (n : Nat) (v2 : Int32) (v3 : Int32) (th : Int32) (si : Int32) (bk : Ar) (to : Ar) (ne : Ar) (st : Ar) (H : Heap) (locs : List Loc) (ls : Array Slot), va_P (dC, dI) vwCl [(q5, .inr (5, [.ref q5bk, .ref q5nw, .ref q5to, .int th, .ref q5ne, .int si, .ref q5st, .int sn, .ref q5pd, .int re, .int ac, .int fa, .int fw, .ref q5cn, .ref q5ig, .ref q5ik])), (q5bk, .inl (cI, 15, .inl bk)), (q5nw, .inl (cI, 15, .inl nw)), (q5to, .inl (cI, 12, .inl to)), (q5ne, .inl (cI, 8, .inl ne)), (q5st, .inl (cI, 16, .inl st)), (q5pd, .inl (cI, 60, .inl pd)), (q5cn, .inl (cI, 3, .inl cn)), (q5ig, .inl (cI, 120, .inl ig)), (q5ik, .inl (cZ, 2, .inl ik))] H → va_D A [(q5, .inr (5, [.ref q5bk, .ref q5nw, .ref q5to, .int th, .ref q5ne, .int si, .ref q5st, .int sn, .ref q5pd, .int re, .int ac, .int fa, .int fw, .ref q5cn, .ref q5ig, .ref q5ik])), (q5bk, .inl (cI, 15, .inl bk)), (q5nw, .inl (cI, 15, .inl nw)), (q5to, .inl (cI, 12, .inl to)), (q5ne, .inl (cI, 8, .inl ne)), (q5st, .inl (cI, 16, .inl st)), (q5pd, .inl (cI, 60, .inl pd)), (q5cn, .inl (cI, 3, .inl cn)), (q5ig, .inl (cI, 120, .inl ig)), (q5ik, .inl (cZ, 2, .inl ik))] → va_S A s.heap H locs → lv_has ls 4 [(0, .ref q5), (2, .int v2), (3, .int v3)] → L_X5_restore_59 v2 bk ne st ig n v3 to = some (r0, th_o, si_o, bk_o, to_o, ne_o, st_o) → W p l e rm_X5_restore s m args below meth c H locs 0 0 Q (F0 m 59 ls []) := by
              intro n
              induction n with
              | zero =>
                intro v2 v3 th si bk to ne st H locs ls hP hD hS hl hs
                replace hs : (none : Option (Int32 × Int32 × Int32 × Ar × Ar × Ar × Ar)) = some (r0, th_o, si_o, bk_o, to_o, ne_o, st_o) := hs
                cases hs
              | succ n_59 ih_59 =>
                intro v2 v3 th si bk to ne st H locs ls hP hD hS hl hs
                replace hs : b_X5_restore_59  (L_X5_restore_59 v2 bk ne st ig n_59) v2 bk ne st ig v3 to = some (r0, th_o, si_o, bk_o, to_o, ne_o, st_o) := hs
                unfold b_X5_restore_59 at hs
                refine lv_iload_n hx hb dX5_restore_59 rfl (lv_at hl 2 rfl) ?_
                refine lv_bipush (v := 12) hx hb dX5_restore_60 (by decide) ?_
                refine lv_icmp_ge (tgt := 88) hx hb dX5_restore_62 (by decide) (fun c_7 => ?_) (fun c_7 => ?_)
                · replace hs := if_p c_7 hs
                  refine lv_iconst (v := 0) hx hb dX5_restore_88 (by decide) ?_
                  refine lv_istore_n (lv' := [(3, .int (0 : Int32)), (0, .ref q5), (2, .int v2)]) hx hb dX5_restore_89 rfl hl (by decide) rfl (fun ls hl => ?_)
                  have hL_90 : ∀ (n : Nat) (v2 : Int32) (v3 : Int32) (th : Int32) (si : Int32) (bk : Ar) (to : Ar) (ne : Ar) (st : Ar) (H : Heap) (locs : List Loc) (ls : Array Slot), va_P (dC, dI) vwCl [(q5, .inr (5, [.ref q5bk, .ref q5nw, .ref q5to, .int th, .ref q5ne, .int si, .ref q5st, .int sn, .ref q5pd, .int re, .int ac, .int fa, .int fw, .ref q5cn, .ref q5ig, .ref q5ik])), (q5bk, .inl (cI, 15, .inl bk)), (q5nw, .inl (cI, 15, .inl nw)), (q5to, .inl (cI, 12, .inl to)), (q5ne, .inl (cI, 8, .inl ne)), (q5st, .inl (cI, 16, .inl st)), (q5pd, .inl (cI, 60, .inl pd)), (q5cn, .inl (cI, 3, .inl cn)), (q5ig, .inl (cI, 120, .inl ig)), (q5ik, .inl (cZ, 2, .inl ik))] H → va_D A [(q5, .inr (5, [.ref q5bk, .ref q5nw, .ref q5to, .int th, .ref q5ne, .int si, .ref q5st, .int sn, .ref q5pd, .int re, .int ac, .int fa, .int fw, .ref q5cn, .ref q5ig, .ref q5ik])), (q5bk, .inl (cI, 15, .inl bk)), (q5nw, .inl (cI, 15, .inl nw)), (q5to, .inl (cI, 12, .inl to)), (q5ne, .inl (cI, 8, .inl ne)), (q5st, .inl (cI, 16, .inl st)), (q5pd, .inl (cI, 60, .inl pd)), (q5cn, .inl (cI, 3, .inl cn)), (q5ig, .inl (cI, 120, .inl ig)), (q5ik, .inl (cZ, 2, .inl ik))] → va_S A s.heap H locs → lv_has ls 4 [(0, .ref q5), (2, .int v2), (3, .int v3)] → L_X5_restore_90 v2 bk to st ig n v3 ne = some (r0, th_o, si_o, bk_o, to_o, ne_o, st_o) → W p l e rm_X5_restore s m args below meth c H locs 0 0 Q (F0 m 90 ls []) := by
                    intro n
                    induction n with
                    | zero =>
                      intro v2 v3 th si bk to ne st H locs ls hP hD hS hl hs
                      replace hs : (none : Option (Int32 × Int32 × Int32 × Ar × Ar × Ar × Ar)) = some (r0, th_o, si_o, bk_o, to_o, ne_o, st_o) := hs
                      cases hs
                    | succ n_90 ih_90 =>
                      intro v2 v3 th si bk to ne st H locs ls hP hD hS hl hs
                      replace hs : b_X5_restore_90  (L_X5_restore_90 v2 bk to st ig n_90) v2 bk to st ig v3 ne = some (r0, th_o, si_o, bk_o, to_o, ne_o, st_o) := hs
                      unfold b_X5_restore_90 at hs
                      refine lv_iload_n hx hb dX5_restore_90 rfl (lv_at hl 2 rfl) ?_
                      refine lv_bipush (v := 8) hx hb dX5_restore_91 (by decide) ?_
                      refine lv_icmp_ge (tgt := 119) hx hb dX5_restore_93 (by decide) (fun c_10 => ?_) (fun c_10 => ?_)
                      · replace hs := if_p c_10 hs
                        refine lv_iconst (v := 0) hx hb dX5_restore_119 (by decide) ?_
                        refine lv_istore_n (lv' := [(3, .int (0 : Int32)), (0, .ref q5), (2, .int v2)]) hx hb dX5_restore_120 rfl hl (by decide) rfl (fun ls hl => ?_)
                        have hL_121 : ∀ (n : Nat) (v2 : Int32) (v3 : Int32) (th : Int32) (si : Int32) (bk : Ar) (to : Ar) (ne : Ar) (st : Ar) (H : Heap) (locs : List Loc) (ls : Array Slot), va_P (dC, dI) vwCl [(q5, .inr (5, [.ref q5bk, .ref q5nw, .ref q5to, .int th, .ref q5ne, .int si, .ref q5st, .int sn, .ref q5pd, .int re, .int ac, .int fa, .int fw, .ref q5cn, .ref q5ig, .ref q5ik])), (q5bk, .inl (cI, 15, .inl bk)), (q5nw, .inl (cI, 15, .inl nw)), (q5to, .inl (cI, 12, .inl to)), (q5ne, .inl (cI, 8, .inl ne)), (q5st, .inl (cI, 16, .inl st)), (q5pd, .inl (cI, 60, .inl pd)), (q5cn, .inl (cI, 3, .inl cn)), (q5ig, .inl (cI, 120, .inl ig)), (q5ik, .inl (cZ, 2, .inl ik))] H → va_D A [(q5, .inr (5, [.ref q5bk, .ref q5nw, .ref q5to, .int th, .ref q5ne, .int si, .ref q5st, .int sn, .ref q5pd, .int re, .int ac, .int fa, .int fw, .ref q5cn, .ref q5ig, .ref q5ik])), (q5bk, .inl (cI, 15, .inl bk)), (q5nw, .inl (cI, 15, .inl nw)), (q5to, .inl (cI, 12, .inl to)), (q5ne, .inl (cI, 8, .inl ne)), (q5st, .inl (cI, 16, .inl st)), (q5pd, .inl (cI, 60, .inl pd)), (q5cn, .inl (cI, 3, .inl cn)), (q5ig, .inl (cI, 120, .inl ig)), (q5ik, .inl (cZ, 2, .inl ik))] → va_S A s.heap H locs → lv_has ls 4 [(0, .ref q5), (2, .int v2), (3, .int v3)] → L_X5_restore_121 v2 bk to ne ig n v3 st = some (r0, th_o, si_o, bk_o, to_o, ne_o, st_o) → W p l e rm_X5_restore s m args below meth c H locs 0 0 Q (F0 m 121 ls []) := by
                          intro n
                          induction n with
                          | zero =>
                            intro v2 v3 th si bk to ne st H locs ls hP hD hS hl hs
                            replace hs : (none : Option (Int32 × Int32 × Int32 × Ar × Ar × Ar × Ar)) = some (r0, th_o, si_o, bk_o, to_o, ne_o, st_o) := hs
                            cases hs
                          | succ n_121 ih_121 =>
                            intro v2 v3 th si bk to ne st H locs ls hP hD hS hl hs
                            replace hs : b_X5_restore_121  (L_X5_restore_121 v2 bk to ne ig n_121) v2 bk to ne ig v3 st = some (r0, th_o, si_o, bk_o, to_o, ne_o, st_o) := hs
                            unfold b_X5_restore_121 at hs
                            refine lv_iload_n hx hb dX5_restore_121 rfl (lv_at hl 2 rfl) ?_
                            refine lv_bipush (v := 16) hx hb dX5_restore_122 (by decide) ?_
                            refine lv_icmp_ge (tgt := 150) hx hb dX5_restore_124 (by decide) (fun c_13 => ?_) (fun c_13 => ?_)
                            · replace hs := if_p c_13 hs
                              refine lv_aload_n hx hb dX5_restore_150 rfl (lv_at hl 0 rfl) ?_
                              refine lv_aload_n hx hb dX5_restore_151 rfl (lv_at hl 0 rfl) ?_
                              refine va_get (D := (dC, dI)) (ci := 5) (v := .ref q5ig) (C := RX5) (T := TX5) (N := 16) hx hb hts (fun w h => kg1 (iG_5 w h)) hown hK hP 0 rfl rfl 14 (by decide) (hts _ (kg1 mG_323)) (fun _ h9 => h9) rfl dX5_restore_152 ?_
                              refine lv_iload_n hx hb dX5_restore_155 rfl (lv_at hl 1 rfl) ?_
                              refine lv_bipush (v := 55) hx hb dX5_restore_156 (by decide) ?_
                              refine lv_iadd hx hb dX5_restore_158 ?_
                              obtain ⟨hg_14, hs⟩ := gd_e hs
                              refine kald hx hb hK hP 8 0 rfl rfl (j := (Int32.toNatClampNeg (v2 + (55 : Int32)))) rfl (inb_e hg_14) dX5_restore_159 ?_
                              refine va_put (D := (dC, dI)) (ci := 5) (v := .int (ig (Int32.toNatClampNeg (v2 + (55 : Int32))))) (ty := .int) (C := RX5) (T := TX5) (N := 16) hx hb hts (fun w h => kg1 (iG_5 w h)) tyX5 tyX5_ok nmX5 hown hK hP hD hS 0 rfl rfl 3 (by decide) (hts _ (kg1 mG_337)) (fun _ h9 => h9) rfl rfl rfl rfl (Nat.le_of_ble_eq_true rfl) dX5_restore_160 (fun H locs hP hD hS => ?_)
                              have hP : va_P (dC, dI) vwCl [(q5, .inr (5, [.ref q5bk, .ref q5nw, .ref q5to, .int (ig (Int32.toNatClampNeg (v2 + (55 : Int32)))), .ref q5ne, .int si, .ref q5st, .int sn, .ref q5pd, .int re, .int ac, .int fa, .int fw, .ref q5cn, .ref q5ig, .ref q5ik])), (q5bk, .inl (cI, 15, .inl bk)), (q5nw, .inl (cI, 15, .inl nw)), (q5to, .inl (cI, 12, .inl to)), (q5ne, .inl (cI, 8, .inl ne)), (q5st, .inl (cI, 16, .inl st)), (q5pd, .inl (cI, 60, .inl pd)), (q5cn, .inl (cI, 3, .inl cn)), (q5ig, .inl (cI, 120, .inl ig)), (q5ik, .inl (cZ, 2, .inl ik))] H := hP
                              have hD : va_D A [(q5, .inr (5, [.ref q5bk, .ref q5nw, .ref q5to, .int (ig (Int32.toNatClampNeg (v2 + (55 : Int32)))), .ref q5ne, .int si, .ref q5st, .int sn, .ref q5pd, .int re, .int ac, .int fa, .int fw, .ref q5cn, .ref q5ig, .ref q5ik])), (q5bk, .inl (cI, 15, .inl bk)), (q5nw, .inl (cI, 15, .inl nw)), (q5to, .inl (cI, 12, .inl to)), (q5ne, .inl (cI, 8, .inl ne)), (q5st, .inl (cI, 16, .inl st)), (q5pd, .inl (cI, 60, .inl pd)), (q5cn, .inl (cI, 3, .inl cn)), (q5ig, .inl (cI, 120, .inl ig)), (q5ik, .inl (cZ, 2, .inl ik))] := hD
                              refine lv_aload_n hx hb dX5_restore_163 rfl (lv_at hl 0 rfl) ?_
                              refine lv_aload_n hx hb dX5_restore_164 rfl (lv_at hl 0 rfl) ?_
                              refine va_get (D := (dC, dI)) (ci := 5) (v := .ref q5ig) (C := RX5) (T := TX5) (N := 16) hx hb hts (fun w h => kg1 (iG_5 w h)) hown hK hP 0 rfl rfl 14 (by decide) (hts _ (kg1 mG_323)) (fun _ h9 => h9) rfl dX5_restore_165 ?_
                              refine lv_iload_n hx hb dX5_restore_168 rfl (lv_at hl 1 rfl) ?_
                              refine lv_bipush (v := 56) hx hb dX5_restore_169 (by decide) ?_
                              refine lv_iadd hx hb dX5_restore_171 ?_
                              obtain ⟨hg_15, hs⟩ := gd_e hs
                              refine kald hx hb hK hP 8 0 rfl rfl (j := (Int32.toNatClampNeg (v2 + (56 : Int32)))) rfl (inb_e hg_15) dX5_restore_172 ?_
                              refine va_put (D := (dC, dI)) (ci := 5) (v := .int (ig (Int32.toNatClampNeg (v2 + (56 : Int32))))) (ty := .int) (C := RX5) (T := TX5) (N := 16) hx hb hts (fun w h => kg1 (iG_5 w h)) tyX5 tyX5_ok nmX5 hown hK hP hD hS 0 rfl rfl 5 (by decide) (hts _ (kg1 mG_414)) (fun _ h9 => h9) rfl rfl rfl rfl (Nat.le_of_ble_eq_true rfl) dX5_restore_173 (fun H locs hP hD hS => ?_)
                              have hP : va_P (dC, dI) vwCl [(q5, .inr (5, [.ref q5bk, .ref q5nw, .ref q5to, .int (ig (Int32.toNatClampNeg (v2 + (55 : Int32)))), .ref q5ne, .int (ig (Int32.toNatClampNeg (v2 + (56 : Int32)))), .ref q5st, .int sn, .ref q5pd, .int re, .int ac, .int fa, .int fw, .ref q5cn, .ref q5ig, .ref q5ik])), (q5bk, .inl (cI, 15, .inl bk)), (q5nw, .inl (cI, 15, .inl nw)), (q5to, .inl (cI, 12, .inl to)), (q5ne, .inl (cI, 8, .inl ne)), (q5st, .inl (cI, 16, .inl st)), (q5pd, .inl (cI, 60, .inl pd)), (q5cn, .inl (cI, 3, .inl cn)), (q5ig, .inl (cI, 120, .inl ig)), (q5ik, .inl (cZ, 2, .inl ik))] H := hP
                              have hD : va_D A [(q5, .inr (5, [.ref q5bk, .ref q5nw, .ref q5to, .int (ig (Int32.toNatClampNeg (v2 + (55 : Int32)))), .ref q5ne, .int (ig (Int32.toNatClampNeg (v2 + (56 : Int32)))), .ref q5st, .int sn, .ref q5pd, .int re, .int ac, .int fa, .int fw, .ref q5cn, .ref q5ig, .ref q5ik])), (q5bk, .inl (cI, 15, .inl bk)), (q5nw, .inl (cI, 15, .inl nw)), (q5to, .inl (cI, 12, .inl to)), (q5ne, .inl (cI, 8, .inl ne)), (q5st, .inl (cI, 16, .inl st)), (q5pd, .inl (cI, 60, .inl pd)), (q5cn, .inl (cI, 3, .inl cn)), (q5ig, .inl (cI, 120, .inl ig)), (q5ik, .inl (cZ, 2, .inl ik))] := hD
                              refine lv_iconst (v := 1) hx hb dX5_restore_176 (by decide) ?_
                              cases hs
                              exact hret _ _ _ _ hP hD hS (vp_nar_int _) dX5_restore_177
                            · replace hs := if_n c_13 hs
                              refine lv_aload_n hx hb dX5_restore_127 rfl (lv_at hl 0 rfl) ?_
                              refine va_get (D := (dC, dI)) (ci := 5) (v := .ref q5st) (C := RX5) (T := TX5) (N := 16) hx hb hts (fun w h => kg1 (iG_5 w h)) hown hK hP 0 rfl rfl 6 (by decide) (hts _ (kg1 mG_320)) (fun _ h9 => h9) rfl dX5_restore_128 ?_
                              refine lv_iload_n hx hb dX5_restore_131 rfl (lv_at hl 2 rfl) ?_
                              refine lv_aload_n hx hb dX5_restore_132 rfl (lv_at hl 0 rfl) ?_
                              refine va_get (D := (dC, dI)) (ci := 5) (v := .ref q5ig) (C := RX5) (T := TX5) (N := 16) hx hb hts (fun w h => kg1 (iG_5 w h)) hown hK hP 0 rfl rfl 14 (by decide) (hts _ (kg1 mG_323)) (fun _ h9 => h9) rfl dX5_restore_133 ?_
                              refine lv_iload_n hx hb dX5_restore_136 rfl (lv_at hl 1 rfl) ?_
                              refine lv_bipush (v := 35) hx hb dX5_restore_137 (by decide) ?_
                              refine lv_iadd hx hb dX5_restore_139 ?_
                              refine lv_iload_n hx hb dX5_restore_140 rfl (lv_at hl 2 rfl) ?_
                              refine lv_iadd hx hb dX5_restore_141 ?_
                              obtain ⟨hg_16, hs⟩ := gd_e hs
                              refine kald hx hb hK hP 8 0 rfl rfl (j := (Int32.toNatClampNeg ((v2 + (35 : Int32)) + v3))) rfl (inb_e hg_16) dX5_restore_142 ?_
                              obtain ⟨hg_17, hs⟩ := gd_e hs
                              refine kast hx hb hK hP hD hS 5 0 rfl rfl (j := (Int32.toNatClampNeg v3)) rfl (inb_e hg_17) dX5_restore_143 (fun H locs hP hD hS => ?_)
                              have hP : va_P (dC, dI) vwCl [(q5, .inr (5, [.ref q5bk, .ref q5nw, .ref q5to, .int th, .ref q5ne, .int si, .ref q5st, .int sn, .ref q5pd, .int re, .int ac, .int fa, .int fw, .ref q5cn, .ref q5ig, .ref q5ik])), (q5bk, .inl (cI, 15, .inl bk)), (q5nw, .inl (cI, 15, .inl nw)), (q5to, .inl (cI, 12, .inl to)), (q5ne, .inl (cI, 8, .inl ne)), (q5st, .inl (cI, 16, .inl (upd st (Int32.toNatClampNeg v3) (ig (Int32.toNatClampNeg ((v2 + (35 : Int32)) + v3)))))), (q5pd, .inl (cI, 60, .inl pd)), (q5cn, .inl (cI, 3, .inl cn)), (q5ig, .inl (cI, 120, .inl ig)), (q5ik, .inl (cZ, 2, .inl ik))] H := hP
                              have hD : va_D A [(q5, .inr (5, [.ref q5bk, .ref q5nw, .ref q5to, .int th, .ref q5ne, .int si, .ref q5st, .int sn, .ref q5pd, .int re, .int ac, .int fa, .int fw, .ref q5cn, .ref q5ig, .ref q5ik])), (q5bk, .inl (cI, 15, .inl bk)), (q5nw, .inl (cI, 15, .inl nw)), (q5to, .inl (cI, 12, .inl to)), (q5ne, .inl (cI, 8, .inl ne)), (q5st, .inl (cI, 16, .inl (upd st (Int32.toNatClampNeg v3) (ig (Int32.toNatClampNeg ((v2 + (35 : Int32)) + v3)))))), (q5pd, .inl (cI, 60, .inl pd)), (q5cn, .inl (cI, 3, .inl cn)), (q5ig, .inl (cI, 120, .inl ig)), (q5ik, .inl (cZ, 2, .inl ik))] := hD
                              refine lv_iinc (v := (v3 + 1)) (lv' := [(3, .int (v3 + 1)), (0, .ref q5), (2, .int v2)]) hx hb dX5_restore_144 hl (k := 2) rfl rfl (by decide) rfl (fun ls hl => ?_)
                              refine lv_goto (tgt := 121) hx hb dX5_restore_147 (by decide) ?_
                              exact ih_121 v2 (v3 + 1) th si bk to ne (upd st (Int32.toNatClampNeg v3) (ig (Int32.toNatClampNeg ((v2 + (35 : Int32)) + v3)))) _ _ _ hP hD hS (lv_sub hl [1, 2, 0] rfl) hs
                        exact hL_121 fu v2 (0 : Int32) th si bk to ne st _ _ _ hP hD hS (lv_sub hl [1, 2, 0] rfl) hs
                      · replace hs := if_n c_10 hs
                        refine lv_aload_n hx hb dX5_restore_96 rfl (lv_at hl 0 rfl) ?_
                        refine va_get (D := (dC, dI)) (ci := 5) (v := .ref q5ne) (C := RX5) (T := TX5) (N := 16) hx hb hts (fun w h => kg1 (iG_5 w h)) hown hK hP 0 rfl rfl 4 (by decide) (hts _ (kg1 mG_319)) (fun _ h9 => h9) rfl dX5_restore_97 ?_
                        refine lv_iload_n hx hb dX5_restore_100 rfl (lv_at hl 2 rfl) ?_
                        refine lv_aload_n hx hb dX5_restore_101 rfl (lv_at hl 0 rfl) ?_
                        refine va_get (D := (dC, dI)) (ci := 5) (v := .ref q5ig) (C := RX5) (T := TX5) (N := 16) hx hb hts (fun w h => kg1 (iG_5 w h)) hown hK hP 0 rfl rfl 14 (by decide) (hts _ (kg1 mG_323)) (fun _ h9 => h9) rfl dX5_restore_102 ?_
                        refine lv_iload_n hx hb dX5_restore_105 rfl (lv_at hl 1 rfl) ?_
                        refine lv_bipush (v := 27) hx hb dX5_restore_106 (by decide) ?_
                        refine lv_iadd hx hb dX5_restore_108 ?_
                        refine lv_iload_n hx hb dX5_restore_109 rfl (lv_at hl 2 rfl) ?_
                        refine lv_iadd hx hb dX5_restore_110 ?_
                        obtain ⟨hg_11, hs⟩ := gd_e hs
                        refine kald hx hb hK hP 8 0 rfl rfl (j := (Int32.toNatClampNeg ((v2 + (27 : Int32)) + v3))) rfl (inb_e hg_11) dX5_restore_111 ?_
                        obtain ⟨hg_12, hs⟩ := gd_e hs
                        refine kast hx hb hK hP hD hS 4 0 rfl rfl (j := (Int32.toNatClampNeg v3)) rfl (inb_e hg_12) dX5_restore_112 (fun H locs hP hD hS => ?_)
                        have hP : va_P (dC, dI) vwCl [(q5, .inr (5, [.ref q5bk, .ref q5nw, .ref q5to, .int th, .ref q5ne, .int si, .ref q5st, .int sn, .ref q5pd, .int re, .int ac, .int fa, .int fw, .ref q5cn, .ref q5ig, .ref q5ik])), (q5bk, .inl (cI, 15, .inl bk)), (q5nw, .inl (cI, 15, .inl nw)), (q5to, .inl (cI, 12, .inl to)), (q5ne, .inl (cI, 8, .inl (upd ne (Int32.toNatClampNeg v3) (ig (Int32.toNatClampNeg ((v2 + (27 : Int32)) + v3)))))), (q5st, .inl (cI, 16, .inl st)), (q5pd, .inl (cI, 60, .inl pd)), (q5cn, .inl (cI, 3, .inl cn)), (q5ig, .inl (cI, 120, .inl ig)), (q5ik, .inl (cZ, 2, .inl ik))] H := hP
                        have hD : va_D A [(q5, .inr (5, [.ref q5bk, .ref q5nw, .ref q5to, .int th, .ref q5ne, .int si, .ref q5st, .int sn, .ref q5pd, .int re, .int ac, .int fa, .int fw, .ref q5cn, .ref q5ig, .ref q5ik])), (q5bk, .inl (cI, 15, .inl bk)), (q5nw, .inl (cI, 15, .inl nw)), (q5to, .inl (cI, 12, .inl to)), (q5ne, .inl (cI, 8, .inl (upd ne (Int32.toNatClampNeg v3) (ig (Int32.toNatClampNeg ((v2 + (27 : Int32)) + v3)))))), (q5st, .inl (cI, 16, .inl st)), (q5pd, .inl (cI, 60, .inl pd)), (q5cn, .inl (cI, 3, .inl cn)), (q5ig, .inl (cI, 120, .inl ig)), (q5ik, .inl (cZ, 2, .inl ik))] := hD
                        refine lv_iinc (v := (v3 + 1)) (lv' := [(3, .int (v3 + 1)), (0, .ref q5), (2, .int v2)]) hx hb dX5_restore_113 hl (k := 2) rfl rfl (by decide) rfl (fun ls hl => ?_)
                        refine lv_goto (tgt := 90) hx hb dX5_restore_116 (by decide) ?_
                        exact ih_90 v2 (v3 + 1) th si bk to (upd ne (Int32.toNatClampNeg v3) (ig (Int32.toNatClampNeg ((v2 + (27 : Int32)) + v3)))) st _ _ _ hP hD hS (lv_sub hl [1, 2, 0] rfl) hs
                  exact hL_90 fu v2 (0 : Int32) th si bk to ne st _ _ _ hP hD hS (lv_sub hl [1, 2, 0] rfl) hs
                · replace hs := if_n c_7 hs
                  refine lv_aload_n hx hb dX5_restore_65 rfl (lv_at hl 0 rfl) ?_
                  refine va_get (D := (dC, dI)) (ci := 5) (v := .ref q5to) (C := RX5) (T := TX5) (N := 16) hx hb hts (fun w h => kg1 (iG_5 w h)) hown hK hP 0 rfl rfl 2 (by decide) (hts _ (kg1 mG_318)) (fun _ h9 => h9) rfl dX5_restore_66 ?_
                  refine lv_iload_n hx hb dX5_restore_69 rfl (lv_at hl 2 rfl) ?_
                  refine lv_aload_n hx hb dX5_restore_70 rfl (lv_at hl 0 rfl) ?_
                  refine va_get (D := (dC, dI)) (ci := 5) (v := .ref q5ig) (C := RX5) (T := TX5) (N := 16) hx hb hts (fun w h => kg1 (iG_5 w h)) hown hK hP 0 rfl rfl 14 (by decide) (hts _ (kg1 mG_323)) (fun _ h9 => h9) rfl dX5_restore_71 ?_
                  refine lv_iload_n hx hb dX5_restore_74 rfl (lv_at hl 1 rfl) ?_
                  refine lv_bipush (v := 15) hx hb dX5_restore_75 (by decide) ?_
                  refine lv_iadd hx hb dX5_restore_77 ?_
                  refine lv_iload_n hx hb dX5_restore_78 rfl (lv_at hl 2 rfl) ?_
                  refine lv_iadd hx hb dX5_restore_79 ?_
                  obtain ⟨hg_8, hs⟩ := gd_e hs
                  refine kald hx hb hK hP 8 0 rfl rfl (j := (Int32.toNatClampNeg ((v2 + (15 : Int32)) + v3))) rfl (inb_e hg_8) dX5_restore_80 ?_
                  obtain ⟨hg_9, hs⟩ := gd_e hs
                  refine kast hx hb hK hP hD hS 3 0 rfl rfl (j := (Int32.toNatClampNeg v3)) rfl (inb_e hg_9) dX5_restore_81 (fun H locs hP hD hS => ?_)
                  have hP : va_P (dC, dI) vwCl [(q5, .inr (5, [.ref q5bk, .ref q5nw, .ref q5to, .int th, .ref q5ne, .int si, .ref q5st, .int sn, .ref q5pd, .int re, .int ac, .int fa, .int fw, .ref q5cn, .ref q5ig, .ref q5ik])), (q5bk, .inl (cI, 15, .inl bk)), (q5nw, .inl (cI, 15, .inl nw)), (q5to, .inl (cI, 12, .inl (upd to (Int32.toNatClampNeg v3) (ig (Int32.toNatClampNeg ((v2 + (15 : Int32)) + v3)))))), (q5ne, .inl (cI, 8, .inl ne)), (q5st, .inl (cI, 16, .inl st)), (q5pd, .inl (cI, 60, .inl pd)), (q5cn, .inl (cI, 3, .inl cn)), (q5ig, .inl (cI, 120, .inl ig)), (q5ik, .inl (cZ, 2, .inl ik))] H := hP
                  have hD : va_D A [(q5, .inr (5, [.ref q5bk, .ref q5nw, .ref q5to, .int th, .ref q5ne, .int si, .ref q5st, .int sn, .ref q5pd, .int re, .int ac, .int fa, .int fw, .ref q5cn, .ref q5ig, .ref q5ik])), (q5bk, .inl (cI, 15, .inl bk)), (q5nw, .inl (cI, 15, .inl nw)), (q5to, .inl (cI, 12, .inl (upd to (Int32.toNatClampNeg v3) (ig (Int32.toNatClampNeg ((v2 + (15 : Int32)) + v3)))))), (q5ne, .inl (cI, 8, .inl ne)), (q5st, .inl (cI, 16, .inl st)), (q5pd, .inl (cI, 60, .inl pd)), (q5cn, .inl (cI, 3, .inl cn)), (q5ig, .inl (cI, 120, .inl ig)), (q5ik, .inl (cZ, 2, .inl ik))] := hD
                  refine lv_iinc (v := (v3 + 1)) (lv' := [(3, .int (v3 + 1)), (0, .ref q5), (2, .int v2)]) hx hb dX5_restore_82 hl (k := 2) rfl rfl (by decide) rfl (fun ls hl => ?_)
                  refine lv_goto (tgt := 59) hx hb dX5_restore_85 (by decide) ?_
                  exact ih_59 v2 (v3 + 1) th si bk (upd to (Int32.toNatClampNeg v3) (ig (Int32.toNatClampNeg ((v2 + (15 : Int32)) + v3)))) ne st _ _ _ hP hD hS (lv_sub hl [1, 2, 0] rfl) hs
            exact hL_59 fu v2 (0 : Int32) th si bk to ne st _ _ _ hP hD hS (lv_sub hl [1, 2, 0] rfl) hs
          · replace hs := if_n c_4 hs
            refine lv_aload_n hx hb dX5_restore_37 rfl (lv_at hl 0 rfl) ?_
            refine va_get (D := (dC, dI)) (ci := 5) (v := .ref q5bk) (C := RX5) (T := TX5) (N := 16) hx hb hts (fun w h => kg1 (iG_5 w h)) hown hK hP 0 rfl rfl 0 (by decide) (hts _ (kg1 mG_316)) (fun _ h9 => h9) rfl dX5_restore_38 ?_
            refine lv_iload_n hx hb dX5_restore_41 rfl (lv_at hl 2 rfl) ?_
            refine lv_aload_n hx hb dX5_restore_42 rfl (lv_at hl 0 rfl) ?_
            refine va_get (D := (dC, dI)) (ci := 5) (v := .ref q5ig) (C := RX5) (T := TX5) (N := 16) hx hb hts (fun w h => kg1 (iG_5 w h)) hown hK hP 0 rfl rfl 14 (by decide) (hts _ (kg1 mG_323)) (fun _ h9 => h9) rfl dX5_restore_43 ?_
            refine lv_iload_n hx hb dX5_restore_46 rfl (lv_at hl 1 rfl) ?_
            refine lv_iload_n hx hb dX5_restore_47 rfl (lv_at hl 2 rfl) ?_
            refine lv_iadd hx hb dX5_restore_48 ?_
            obtain ⟨hg_5, hs⟩ := gd_e hs
            refine kald hx hb hK hP 8 0 rfl rfl (j := (Int32.toNatClampNeg (v2 + v3))) rfl (inb_e hg_5) dX5_restore_49 ?_
            obtain ⟨hg_6, hs⟩ := gd_e hs
            refine kast hx hb hK hP hD hS 1 0 rfl rfl (j := (Int32.toNatClampNeg v3)) rfl (inb_e hg_6) dX5_restore_50 (fun H locs hP hD hS => ?_)
            have hP : va_P (dC, dI) vwCl [(q5, .inr (5, [.ref q5bk, .ref q5nw, .ref q5to, .int th, .ref q5ne, .int si, .ref q5st, .int sn, .ref q5pd, .int re, .int ac, .int fa, .int fw, .ref q5cn, .ref q5ig, .ref q5ik])), (q5bk, .inl (cI, 15, .inl (upd bk (Int32.toNatClampNeg v3) (ig (Int32.toNatClampNeg (v2 + v3)))))), (q5nw, .inl (cI, 15, .inl nw)), (q5to, .inl (cI, 12, .inl to)), (q5ne, .inl (cI, 8, .inl ne)), (q5st, .inl (cI, 16, .inl st)), (q5pd, .inl (cI, 60, .inl pd)), (q5cn, .inl (cI, 3, .inl cn)), (q5ig, .inl (cI, 120, .inl ig)), (q5ik, .inl (cZ, 2, .inl ik))] H := hP
            have hD : va_D A [(q5, .inr (5, [.ref q5bk, .ref q5nw, .ref q5to, .int th, .ref q5ne, .int si, .ref q5st, .int sn, .ref q5pd, .int re, .int ac, .int fa, .int fw, .ref q5cn, .ref q5ig, .ref q5ik])), (q5bk, .inl (cI, 15, .inl (upd bk (Int32.toNatClampNeg v3) (ig (Int32.toNatClampNeg (v2 + v3)))))), (q5nw, .inl (cI, 15, .inl nw)), (q5to, .inl (cI, 12, .inl to)), (q5ne, .inl (cI, 8, .inl ne)), (q5st, .inl (cI, 16, .inl st)), (q5pd, .inl (cI, 60, .inl pd)), (q5cn, .inl (cI, 3, .inl cn)), (q5ig, .inl (cI, 120, .inl ig)), (q5ik, .inl (cZ, 2, .inl ik))] := hD
            refine lv_iinc (v := (v3 + 1)) (lv' := [(3, .int (v3 + 1)), (0, .ref q5), (2, .int v2)]) hx hb dX5_restore_51 hl (k := 2) rfl rfl (by decide) rfl (fun ls hl => ?_)
            refine lv_goto (tgt := 31) hx hb dX5_restore_54 (by decide) ?_
            exact ih_31 v2 (v3 + 1) th si (upd bk (Int32.toNatClampNeg v3) (ig (Int32.toNatClampNeg (v2 + v3)))) to ne st _ _ _ hP hD hS (lv_sub hl [1, 2, 0] rfl) hs
      exact hL_31 fu ((60 : Int32) * v1) (0 : Int32) th si bk to ne st _ _ _ hP hD hS (lv_sub hl [2, 1, 0] rfl) hs
    · replace hs := if_p c_3 hs
      refine lv_bipush (v := -3) hx hb dX5_restore_21 (by decide) ?_
      cases hs
      exact hret _ _ _ _ hP hD hS (vp_nar_int _) dX5_restore_23
  · replace hs := if_p c_1 hs
    refine lv_bipush (v := -2) hx hb dX5_restore_9 (by decide) ?_
    cases hs
    exact hret _ _ _ _ hP hD hS (vp_nar_int _) dX5_restore_11
abbrev rm_X5_told : Room := { frames := 2, cells := 0, slots := 0, locals := 42 }
theorem hd_X5_told : yX5_told.cls ≠ "java/lang/invoke/MethodHandle" ∧ yX5_told.cls ≠ "java/lang/invoke/VarHandle" ∧ (parseMethodDescriptor yX5_told.desc).map (fun d => d.parameters.length) = some 1 := by decide +kernel
set_option maxHeartbeats 4000000 in
set_option maxRecDepth 100000 in
theorem k_X5_told (l : Launch) (dC : Nat → ClassId) (dI : Nat → Nat → Nat) (cI cZ cS : ClassId) (q5 q5bk q5nw q5to q5ne q5st q5pd q5cn q5ig q5ik : Nat) (sz : Nat) (th : Int32) (si : Int32) (sn : Int32) (re : Int32) (ac : Int32) (fa : Int32) (fw : Int32) (bk : Ar) (nw : Ar) (to : Ar) (ne : Ar) (st : Ar) (pd : Ar) (cn : Ar) (ig : Ar) (ik : Ar) (v1 : Int32) (r0 : Int32) (hs : m_X5_told v1 th si sn bk to ne = some r0) : Met l yX5_told (.code yX5_told cX5_told 2 (some .int) :: kG) rm_X5_told (va_Pc [.ref q5, .int v1] (kW (dC, dI) cI cZ cS [(q5, .inr (5, [.ref q5bk, .ref q5nw, .ref q5to, .int th, .ref q5ne, .int si, .ref q5st, .int sn, .ref q5pd, .int re, .int ac, .int fa, .int fw, .ref q5cn, .ref q5ig, .ref q5ik])), (q5bk, .inl (cI, 15, .inl bk)), (q5nw, .inl (cI, 15, .inl nw)), (q5to, .inl (cI, 12, .inl to)), (q5ne, .inl (cI, 8, .inl ne)), (q5st, .inl (cI, 16, .inl st)), (q5pd, .inl (cI, 60, .inl pd)), (q5cn, .inl (cI, 3, .inl cn)), (q5ig, .inl (cI, 120, .inl ig)), (q5ik, .inl (cZ, 2, .inl ik))] sz)) (kQi (dC, dI) [(q5, .inr (5, [.ref q5bk, .ref q5nw, .ref q5to, .int th, .ref q5ne, .int si, .ref q5st, .int sn, .ref q5pd, .int re, .int ac, .int fa, .int fw, .ref q5cn, .ref q5ig, .ref q5ik])), (q5bk, .inl (cI, 15, .inl bk)), (q5nw, .inl (cI, 15, .inl nw)), (q5to, .inl (cI, 12, .inl to)), (q5ne, .inl (cI, 8, .inl ne)), (q5st, .inl (cI, 16, .inl st)), (q5pd, .inl (cI, 60, .inl pd)), (q5cn, .inl (cI, 3, .inl cn)), (q5ig, .inl (cI, 120, .inl ig)), (q5ik, .inl (cZ, 2, .inl ik))] [(q5, .inr (5, [.ref q5bk, .ref q5nw, .ref q5to, .int th, .ref q5ne, .int si, .ref q5st, .int sn, .ref q5pd, .int re, .int ac, .int fa, .int fw, .ref q5cn, .ref q5ig, .ref q5ik])), (q5bk, .inl (cI, 15, .inl bk)), (q5nw, .inl (cI, 15, .inl nw)), (q5to, .inl (cI, 12, .inl to)), (q5ne, .inl (cI, 8, .inl ne)), (q5st, .inl (cI, 16, .inl st)), (q5pd, .inl (cI, 60, .inl pd)), (q5cn, .inl (cI, 3, .inl cn)), (q5ig, .inl (cI, 120, .inl ig)), (q5ik, .inl (cZ, 2, .inl ik))] sz r0) 0 0 (va_A [(q5, .inr (5, [.ref q5bk, .ref q5nw, .ref q5to, .int th, .ref q5ne, .int si, .ref q5st, .int sn, .ref q5pd, .int re, .int ac, .int fa, .int fw, .ref q5cn, .ref q5ig, .ref q5ik])), (q5bk, .inl (cI, 15, .inl bk)), (q5nw, .inl (cI, 15, .inl nw)), (q5to, .inl (cI, 12, .inl to)), (q5ne, .inl (cI, 8, .inl ne)), (q5st, .inl (cI, 16, .inl st)), (q5pd, .inl (cI, 60, .inl pd)), (q5cn, .inl (cI, 3, .inl cn)), (q5ig, .inl (cI, 120, .inl ig)), (q5ik, .inl (cZ, 2, .inl ik))] sz) := by
  refine kMi (own := RX5) (ty := .int) rfl (by decide) rfl ?_ (Nat.le_of_ble_eq_true rfl)
  intro p e s m args below meth c Q A CF hK hN hA hP hD hret ls hl
  have hS : va_S A s.heap s.heap [] := va_S.rf
  obtain ⟨hx, hb, hml, hown, hts⟩ := id CF
  have hl : lv_has ls 2 [(0, .ref q5), (1, .int v1)] := hl
  unfold m_X5_told at hs
  refine lv_iload_n hx hb dX5_told_0 rfl (lv_at hl 1 rfl) ?_
  refine lv_bipush (v := 50) hx hb dX5_told_1 (by decide) ?_
  refine lv_icmp_lt (tgt := 32) hx hb dX5_told_3 (by decide) (fun c_1 => ?_) (fun c_1 => ?_)
  · replace hs := if_p c_1 hs
    refine lv_iload_n hx hb dX5_told_32 rfl (lv_at hl 1 rfl) ?_
    refine lv_bipush (v := 30) hx hb dX5_told_33 (by decide) ?_
    refine lv_icmp_lt (tgt := 63) hx hb dX5_told_35 (by decide) (fun c_2 => ?_) (fun c_2 => ?_)
    · replace hs := if_p c_2 hs
      refine lv_iload_n hx hb dX5_told_63 rfl (lv_at hl 1 rfl) ?_
      refine lv_bipush (v := 10) hx hb dX5_told_64 (by decide) ?_
      refine lv_icmp_lt (tgt := 94) hx hb dX5_told_66 (by decide) (fun c_3 => ?_) (fun c_3 => ?_)
      · replace hs := if_p c_3 hs
        refine lv_iload_n hx hb dX5_told_94 rfl (lv_at hl 1 rfl) ?_
        by_cases c_4 : v1 = (0 : Int32)
        · replace hs := if_p c_4 hs
          refine lv_tableIn (off := 33) (tgt := 128) hx hb dX5_told_95 (by rw [c_4]; decide) (by rw [c_4]; decide) (by rw [c_4]; decide) (by decide) ?_
          refine lv_aload_n hx hb dX5_told_128 rfl (lv_at hl 0 rfl) ?_
          refine va_get (D := (dC, dI)) (ci := 5) (v := .int sn) (C := RX5) (T := TX5) (N := 16) hx hb hts (fun w h => kg1 (iG_5 w h)) hown hK hP 0 rfl rfl 7 (by decide) (hts _ (kg1 mG_343)) (fun _ h9 => h9) rfl dX5_told_129 ?_
          cases hs
          exact hret _ _ _ _ hP hD hS (vp_nar_int _) dX5_told_132
        replace hs := if_n c_4 hs
        by_cases c_5 : v1 = (1 : Int32)
        · replace hs := if_p c_5 hs
          refine lv_tableIn (off := 38) (tgt := 133) hx hb dX5_told_95 (by rw [c_5]; decide) (by rw [c_5]; decide) (by rw [c_5]; decide) (by decide) ?_
          refine lv_aload_n hx hb dX5_told_133 rfl (lv_at hl 0 rfl) ?_
          refine va_get (D := (dC, dI)) (ci := 5) (v := .ref q5bk) (C := RX5) (T := TX5) (N := 16) hx hb hts (fun w h => kg1 (iG_5 w h)) hown hK hP 0 rfl rfl 0 (by decide) (hts _ (kg1 mG_316)) (fun _ h9 => h9) rfl dX5_told_134 ?_
          refine lv_bipush (v := 14) hx hb dX5_told_137 (by decide) ?_
          refine kald hx hb hK hP 1 0 rfl rfl (j := 14) rfl (inb_e (i := (14 : Int32)) (n := 15) rfl) dX5_told_139 ?_
          cases hs
          exact hret _ _ _ _ hP hD hS (vp_nar_int _) dX5_told_140
        replace hs := if_n c_5 hs
        by_cases c_6 : v1 = (2 : Int32)
        · replace hs := if_p c_6 hs
          refine lv_tableIn (off := 46) (tgt := 141) hx hb dX5_told_95 (by rw [c_6]; decide) (by rw [c_6]; decide) (by rw [c_6]; decide) (by decide) ?_
          refine lv_aload_n hx hb dX5_told_141 rfl (lv_at hl 0 rfl) ?_
          refine va_get (D := (dC, dI)) (ci := 5) (v := .ref q5bk) (C := RX5) (T := TX5) (N := 16) hx hb hts (fun w h => kg1 (iG_5 w h)) hown hK hP 0 rfl rfl 0 (by decide) (hts _ (kg1 mG_316)) (fun _ h9 => h9) rfl dX5_told_142 ?_
          refine lv_bipush (v := 12) hx hb dX5_told_145 (by decide) ?_
          refine kald hx hb hK hP 1 0 rfl rfl (j := 12) rfl (inb_e (i := (12 : Int32)) (n := 15) rfl) dX5_told_147 ?_
          cases hs
          exact hret _ _ _ _ hP hD hS (vp_nar_int _) dX5_told_148
        replace hs := if_n c_6 hs
        by_cases c_7 : v1 = (3 : Int32)
        · replace hs := if_p c_7 hs
          refine lv_tableIn (off := 54) (tgt := 149) hx hb dX5_told_95 (by rw [c_7]; decide) (by rw [c_7]; decide) (by rw [c_7]; decide) (by decide) ?_
          refine lv_aload_n hx hb dX5_told_149 rfl (lv_at hl 0 rfl) ?_
          refine va_get (D := (dC, dI)) (ci := 5) (v := .ref q5bk) (C := RX5) (T := TX5) (N := 16) hx hb hts (fun w h => kg1 (iG_5 w h)) hown hK hP 0 rfl rfl 0 (by decide) (hts _ (kg1 mG_316)) (fun _ h9 => h9) rfl dX5_told_150 ?_
          refine lv_bipush (v := 13) hx hb dX5_told_153 (by decide) ?_
          refine kald hx hb hK hP 1 0 rfl rfl (j := 13) rfl (inb_e (i := (13 : Int32)) (n := 15) rfl) dX5_told_155 ?_
          cases hs
          exact hret _ _ _ _ hP hD hS (vp_nar_int _) dX5_told_156
        replace hs := if_n c_7 hs
        by_cases c_8 : v1 = (4 : Int32)
        · replace hs := if_p c_8 hs
          refine lv_tableIn (off := 62) (tgt := 157) hx hb dX5_told_95 (by rw [c_8]; decide) (by rw [c_8]; decide) (by rw [c_8]; decide) (by decide) ?_
          refine lv_aload_n hx hb dX5_told_157 rfl (lv_at hl 0 rfl) ?_
          refine va_get (D := (dC, dI)) (ci := 5) (v := .int th) (C := RX5) (T := TX5) (N := 16) hx hb hts (fun w h => kg1 (iG_5 w h)) hown hK hP 0 rfl rfl 3 (by decide) (hts _ (kg1 mG_337)) (fun _ h9 => h9) rfl dX5_told_158 ?_
          cases hs
          exact hret _ _ _ _ hP hD hS (vp_nar_int _) dX5_told_161
        replace hs := if_n c_8 hs
        refine lv_tableOut (tgt := 162) hx hb dX5_told_95 (by have := lv_neT c_4 (a := 0) (by decide); have := lv_neT c_5 (a := 1) (by decide); have := lv_neT c_6 (a := 2) (by decide); have := lv_neT c_7 (a := 3) (by decide); have := lv_neT c_8 (a := 4) (by decide); omega) (by decide) ?_
        refine lv_iload_n hx hb dX5_told_162 rfl (lv_at hl 1 rfl) ?_
        refine lv_iconst (v := 5) hx hb dX5_told_163 (by decide) ?_
        refine lv_icmp_ne (tgt := 174) hx hb dX5_told_164 (by decide) (fun c_9 => ?_) (fun c_9 => ?_)
        · replace hs := if_n c_9 hs
          refine lv_bipush (v := -2) hx hb dX5_told_174 (by decide) ?_
          cases hs
          exact hret _ _ _ _ hP hD hS (vp_nar_int _) dX5_told_176
        · replace hs := if_p c_9 hs
          refine lv_aload_n hx hb dX5_told_167 rfl (lv_at hl 0 rfl) ?_
          refine va_get (D := (dC, dI)) (ci := 5) (v := .int si) (C := RX5) (T := TX5) (N := 16) hx hb hts (fun w h => kg1 (iG_5 w h)) hown hK hP 0 rfl rfl 5 (by decide) (hts _ (kg1 mG_414)) (fun _ h9 => h9) rfl dX5_told_168 ?_
          refine lv_goto (tgt := 176) hx hb dX5_told_171 (by decide) ?_
          cases hs
          exact hret _ _ _ _ hP hD hS (vp_nar_int _) dX5_told_176
      · replace hs := if_n c_3 hs
        refine lv_iload_n hx hb dX5_told_69 rfl (lv_at hl 1 rfl) ?_
        refine lv_bipush (v := 10) hx hb dX5_told_70 (by decide) ?_
        refine lv_isub hx hb dX5_told_72 ?_
        obtain ⟨r_10, hc_11, hs⟩ := ob1_e hs
        refine kpi (va_runS (As := [.int (v1 - (10 : Int32))]) (rest := []) ⟨hx, hb, hml, hown, hts⟩ (k_X5_isPart l (v1 - (10 : Int32)) r_10 hc_11) (va_cwS 1 hts (kGood (kgS mG_334 mG_335 mG_332 mG_329)) rfl rfl rfl hd_X5_isPart ⟨Nat.le_of_ble_eq_true rfl, Nat.le_of_ble_eq_true rfl⟩) preEq rfl rfl hl.1 rfl (lv_room (Nat.le_of_ble_eq_true rfl)) dX5_told_73 ⟨Nat.zero_le _, Nat.zero_le _⟩) ?_
        refine lv_if_eq (tgt := 91) hx hb dX5_told_76 (by decide) (fun c_12 => ?_) (fun c_12 => ?_)
        · replace hs := if_p c_12 hs
          refine lv_bipush (v := -2) hx hb dX5_told_91 (by decide) ?_
          cases hs
          exact hret _ _ _ _ hP hD hS (vp_nar_int _) dX5_told_93
        · replace hs := if_n c_12 hs
          refine lv_aload_n hx hb dX5_told_79 rfl (lv_at hl 0 rfl) ?_
          refine va_get (D := (dC, dI)) (ci := 5) (v := .ref q5bk) (C := RX5) (T := TX5) (N := 16) hx hb hts (fun w h => kg1 (iG_5 w h)) hown hK hP 0 rfl rfl 0 (by decide) (hts _ (kg1 mG_316)) (fun _ h9 => h9) rfl dX5_told_80 ?_
          refine lv_iload_n hx hb dX5_told_83 rfl (lv_at hl 1 rfl) ?_
          refine lv_bipush (v := 10) hx hb dX5_told_84 (by decide) ?_
          refine lv_isub hx hb dX5_told_86 ?_
          obtain ⟨hg_13, hs⟩ := gd_e hs
          refine kald hx hb hK hP 1 0 rfl rfl (j := (Int32.toNatClampNeg (v1 - (10 : Int32)))) rfl (inb_e hg_13) dX5_told_87 ?_
          refine lv_goto (tgt := 93) hx hb dX5_told_88 (by decide) ?_
          cases hs
          exact hret _ _ _ _ hP hD hS (vp_nar_int _) dX5_told_93
    · replace hs := if_n c_2 hs
      refine lv_iload_n hx hb dX5_told_38 rfl (lv_at hl 1 rfl) ?_
      refine lv_bipush (v := 30) hx hb dX5_told_39 (by decide) ?_
      refine lv_isub hx hb dX5_told_41 ?_
      obtain ⟨r_14, hc_15, hs⟩ := ob1_e hs
      refine kpi (va_runS (As := [.int (v1 - (30 : Int32))]) (rest := []) ⟨hx, hb, hml, hown, hts⟩ (k_X5_isPart l (v1 - (30 : Int32)) r_14 hc_15) (va_cwS 1 hts (kGood (kgS mG_334 mG_335 mG_332 mG_329)) rfl rfl rfl hd_X5_isPart ⟨Nat.le_of_ble_eq_true rfl, Nat.le_of_ble_eq_true rfl⟩) preEq rfl rfl hl.1 rfl (lv_room (Nat.le_of_ble_eq_true rfl)) dX5_told_42 ⟨Nat.zero_le _, Nat.zero_le _⟩) ?_
      refine lv_if_eq (tgt := 60) hx hb dX5_told_45 (by decide) (fun c_16 => ?_) (fun c_16 => ?_)
      · replace hs := if_p c_16 hs
        refine lv_bipush (v := -2) hx hb dX5_told_60 (by decide) ?_
        cases hs
        exact hret _ _ _ _ hP hD hS (vp_nar_int _) dX5_told_62
      · replace hs := if_n c_16 hs
        refine lv_aload_n hx hb dX5_told_48 rfl (lv_at hl 0 rfl) ?_
        refine va_get (D := (dC, dI)) (ci := 5) (v := .ref q5to) (C := RX5) (T := TX5) (N := 16) hx hb hts (fun w h => kg1 (iG_5 w h)) hown hK hP 0 rfl rfl 2 (by decide) (hts _ (kg1 mG_318)) (fun _ h9 => h9) rfl dX5_told_49 ?_
        refine lv_iload_n hx hb dX5_told_52 rfl (lv_at hl 1 rfl) ?_
        refine lv_bipush (v := 30) hx hb dX5_told_53 (by decide) ?_
        refine lv_isub hx hb dX5_told_55 ?_
        obtain ⟨hg_17, hs⟩ := gd_e hs
        refine kald hx hb hK hP 3 0 rfl rfl (j := (Int32.toNatClampNeg (v1 - (30 : Int32)))) rfl (inb_e hg_17) dX5_told_56 ?_
        refine lv_goto (tgt := 62) hx hb dX5_told_57 (by decide) ?_
        cases hs
        exact hret _ _ _ _ hP hD hS (vp_nar_int _) dX5_told_62
  · replace hs := if_n c_1 hs
    refine lv_iload_n hx hb dX5_told_6 rfl (lv_at hl 1 rfl) ?_
    refine lv_bipush (v := 50) hx hb dX5_told_7 (by decide) ?_
    refine lv_bipush (v := 57) hx hb dX5_told_9 (by decide) ?_
    refine kpi (va_runS (As := [.int v1, .int (50 : Int32), .int (57 : Int32)]) (rest := []) ⟨hx, hb, hml, hown, hts⟩ (k_X5_in l v1 (50 : Int32) (57 : Int32) _ rfl) (va_cwS 3 hts (kGood (kgS mG_330 mG_331 mG_332 mG_326)) rfl rfl rfl hd_X5_in ⟨Nat.le_of_ble_eq_true rfl, Nat.le_of_ble_eq_true rfl⟩) preEq rfl rfl hl.1 rfl (lv_room (Nat.le_of_ble_eq_true rfl)) dX5_told_11 ⟨Nat.zero_le _, Nat.zero_le _⟩) ?_
    refine lv_if_eq (tgt := 29) hx hb dX5_told_14 (by decide) (fun c_18 => ?_) (fun c_18 => ?_)
    · replace hs := if_p c_18 hs
      refine lv_bipush (v := -2) hx hb dX5_told_29 (by decide) ?_
      cases hs
      exact hret _ _ _ _ hP hD hS (vp_nar_int _) dX5_told_31
    · replace hs := if_n c_18 hs
      refine lv_aload_n hx hb dX5_told_17 rfl (lv_at hl 0 rfl) ?_
      refine va_get (D := (dC, dI)) (ci := 5) (v := .ref q5ne) (C := RX5) (T := TX5) (N := 16) hx hb hts (fun w h => kg1 (iG_5 w h)) hown hK hP 0 rfl rfl 4 (by decide) (hts _ (kg1 mG_319)) (fun _ h9 => h9) rfl dX5_told_18 ?_
      refine lv_iload_n hx hb dX5_told_21 rfl (lv_at hl 1 rfl) ?_
      refine lv_bipush (v := 50) hx hb dX5_told_22 (by decide) ?_
      refine lv_isub hx hb dX5_told_24 ?_
      obtain ⟨hg_19, hs⟩ := gd_e hs
      refine kald hx hb hK hP 4 0 rfl rfl (j := (Int32.toNatClampNeg (v1 - (50 : Int32)))) rfl (inb_e hg_19) dX5_told_25 ?_
      refine lv_goto (tgt := 31) hx hb dX5_told_26 (by decide) ?_
      cases hs
      exact hret _ _ _ _ hP hD hS (vp_nar_int _) dX5_told_31
