abbrev rm_X0_write : Room := { frames := 0, cells := 0, slots := 0, locals := 0 }
theorem hd_X0_write : yX0_write.cls ≠ "java/lang/invoke/MethodHandle" ∧ yX0_write.cls ≠ "java/lang/invoke/VarHandle" ∧ (parseMethodDescriptor yX0_write.desc).map (fun d => d.parameters.length) = some 1 := by decide +kernel
set_option maxHeartbeats 4000000 in
set_option maxRecDepth 100000 in
theorem k_X0_write (l : Launch) (dC : Nat → ClassId) (dI : Nat → Nat → Nat) (cI cZ cS : ClassId) (q0 q0sg : Nat) (sz : Nat) (ct : Int32) (sg : Ar) (v1 : Int32) (r0 : Int32) (ct_o : Int32) (sg_o : Ar) (hs : m_X0_write v1 ct sg = some (r0, ct_o, sg_o)) : Met l yX0_write (.code yX0_write cX0_write 2 (some .boolean) :: kG) rm_X0_write (va_Pc [.ref q0, .int v1] (kW (dC, dI) cI cZ cS [(q0, .inr (0, [.ref q0sg, .int ct])), (q0sg, .inl (cI, 60, .inl sg))] sz)) (kQi (dC, dI) [(q0, .inr (0, [.ref q0sg, .int ct])), (q0sg, .inl (cI, 60, .inl sg))] [(q0, .inr (0, [.ref q0sg, .int ct_o])), (q0sg, .inl (cI, 60, .inl sg_o))] sz r0) 0 0 (va_A [(q0, .inr (0, [.ref q0sg, .int ct])), (q0sg, .inl (cI, 60, .inl sg))] sz) := by
  refine kMi (own := RX0) (ty := .boolean) rfl (by decide) rfl ?_ (Nat.le_of_ble_eq_true rfl)
  intro p e s m args below meth c Q A CF hK hN hA hP hD hret ls hl
  have hS : va_S A s.heap s.heap [] := va_S.rf
  obtain ⟨hx, hb, hml, hown, hts⟩ := id CF
  have hl : lv_has ls 2 [(0, .ref q0), (1, .int v1)] := hl
  unfold m_X0_write at hs
  refine lv_aload_n hx hb dX0_write_0 rfl (lv_at hl 0 rfl) ?_
  refine va_get (D := (dC, dI)) (ci := 0) (v := .int ct) (C := RX0) (T := TX0) (N := 2) hx hb hts (fun w h => kg1 (iG_0 w h)) hown hK hP 0 rfl rfl 1 (by decide) (hts _ (kg1 mG_7)) (fun _ h9 => h9) rfl dX0_write_1 ?_
  refine lv_bipush (v := 60) hx hb dX0_write_4 (by decide) ?_
  refine lv_icmp_lt (tgt := 11) hx hb dX0_write_6 (by decide) (fun c_1 => ?_) (fun c_1 => ?_)
  · replace hs := if_p c_1 hs
    refine lv_aload_n hx hb dX0_write_11 rfl (lv_at hl 0 rfl) ?_
    refine va_get (D := (dC, dI)) (ci := 0) (v := .ref q0sg) (C := RX0) (T := TX0) (N := 2) hx hb hts (fun w h => kg1 (iG_0 w h)) hown hK hP 0 rfl rfl 0 (by decide) (hts _ (kg1 mG_5)) (fun _ h9 => h9) rfl dX0_write_12 ?_
    refine lv_aload_n hx hb dX0_write_15 rfl (lv_at hl 0 rfl) ?_
    refine va_get (D := (dC, dI)) (ci := 0) (v := .int ct) (C := RX0) (T := TX0) (N := 2) hx hb hts (fun w h => kg1 (iG_0 w h)) hown hK hP 0 rfl rfl 1 (by decide) (hts _ (kg1 mG_7)) (fun _ h9 => h9) rfl dX0_write_16 ?_
    refine lv_iload_n hx hb dX0_write_19 rfl (lv_at hl 1 rfl) ?_
    obtain ⟨hg_2, hs⟩ := gd_e hs
    refine kast hx hb hK hP hD hS 1 0 rfl rfl (j := (Int32.toNatClampNeg ct)) rfl (inb_e hg_2) dX0_write_20 (fun H locs hP hD hS => ?_)
    have hP : va_P (dC, dI) vwCl [(q0, .inr (0, [.ref q0sg, .int ct])), (q0sg, .inl (cI, 60, .inl (upd sg (Int32.toNatClampNeg ct) v1)))] H := hP
    have hD : va_D A [(q0, .inr (0, [.ref q0sg, .int ct])), (q0sg, .inl (cI, 60, .inl (upd sg (Int32.toNatClampNeg ct) v1)))] := hD
    refine lv_aload_n hx hb dX0_write_21 rfl (lv_at hl 0 rfl) ?_
    refine lv_dup hx hb dX0_write_22 rfl ?_
    refine va_get (D := (dC, dI)) (ci := 0) (v := .int ct) (C := RX0) (T := TX0) (N := 2) hx hb hts (fun w h => kg1 (iG_0 w h)) hown hK hP 0 rfl rfl 1 (by decide) (hts _ (kg1 mG_7)) (fun _ h9 => h9) rfl dX0_write_23 ?_
    refine lv_iconst (v := 1) hx hb dX0_write_26 (by decide) ?_
    refine lv_iadd hx hb dX0_write_27 ?_
    refine va_put (D := (dC, dI)) (ci := 0) (v := .int (ct + (1 : Int32))) (ty := .int) (C := RX0) (T := TX0) (N := 2) hx hb hts (fun w h => kg1 (iG_0 w h)) tyX0 tyX0_ok nmX0 hown hK hP hD hS 0 rfl rfl 1 (by decide) (hts _ (kg1 mG_7)) (fun _ h9 => h9) rfl rfl rfl rfl (Nat.le_of_ble_eq_true rfl) dX0_write_28 (fun H locs hP hD hS => ?_)
    have hP : va_P (dC, dI) vwCl [(q0, .inr (0, [.ref q0sg, .int (ct + (1 : Int32))])), (q0sg, .inl (cI, 60, .inl (upd sg (Int32.toNatClampNeg ct) v1)))] H := hP
    have hD : va_D A [(q0, .inr (0, [.ref q0sg, .int (ct + (1 : Int32))])), (q0sg, .inl (cI, 60, .inl (upd sg (Int32.toNatClampNeg ct) v1)))] := hD
    refine lv_iconst (v := 1) hx hb dX0_write_31 (by decide) ?_
    cases hs
    exact hret _ _ _ _ hP hD hS rfl dX0_write_32
  · replace hs := if_n c_1 hs
    refine lv_iconst (v := 0) hx hb dX0_write_9 (by decide) ?_
    cases hs
    exact hret _ _ _ _ hP hD hS rfl dX0_write_10
abbrev rm_X0_clean : Room := { frames := 0, cells := 0, slots := 0, locals := 0 }
theorem hd_X0_clean : yX0_clean.cls ≠ "java/lang/invoke/MethodHandle" ∧ yX0_clean.cls ≠ "java/lang/invoke/VarHandle" ∧ (parseMethodDescriptor yX0_clean.desc).map (fun d => d.parameters.length) = some 0 := by decide +kernel
set_option maxHeartbeats 4000000 in
set_option maxRecDepth 100000 in
theorem k_X0_clean (l : Launch) (dC : Nat → ClassId) (dI : Nat → Nat → Nat) (cI cZ cS : ClassId) (q0 q0sg : Nat) (sz : Nat) (ct : Int32) (sg : Ar)  (r0 : Int32) (ct_o : Int32) (hs : m_X0_clean ct = some (r0, ct_o)) : Met l yX0_clean (.code yX0_clean cX0_clean 2 (some .int) :: kG) rm_X0_clean (va_Pc [.ref q0] (kW (dC, dI) cI cZ cS [(q0, .inr (0, [.ref q0sg, .int ct])), (q0sg, .inl (cI, 60, .inl sg))] sz)) (kQi (dC, dI) [(q0, .inr (0, [.ref q0sg, .int ct])), (q0sg, .inl (cI, 60, .inl sg))] [(q0, .inr (0, [.ref q0sg, .int ct_o])), (q0sg, .inl (cI, 60, .inl sg))] sz r0) 0 0 (va_A [(q0, .inr (0, [.ref q0sg, .int ct])), (q0sg, .inl (cI, 60, .inl sg))] sz) := by
  refine kMi (own := RX0) (ty := .int) rfl (by decide) rfl ?_ (Nat.le_of_ble_eq_true rfl)
  intro p e s m args below meth c Q A CF hK hN hA hP hD hret ls hl
  have hS : va_S A s.heap s.heap [] := va_S.rf
  obtain ⟨hx, hb, hml, hown, hts⟩ := id CF
  have hl : lv_has ls 2 [(0, .ref q0)] := hl
  unfold m_X0_clean at hs
  refine lv_aload_n hx hb dX0_clean_0 rfl (lv_at hl 0 rfl) ?_
  refine va_get (D := (dC, dI)) (ci := 0) (v := .int ct) (C := RX0) (T := TX0) (N := 2) hx hb hts (fun w h => kg1 (iG_0 w h)) hown hK hP 0 rfl rfl 1 (by decide) (hts _ (kg1 mG_7)) (fun _ h9 => h9) rfl dX0_clean_1 ?_
  refine lv_istore_n (lv' := [(1, .int ct), (0, .ref q0)]) hx hb dX0_clean_4 rfl hl (by decide) rfl (fun ls hl => ?_)
  refine lv_aload_n hx hb dX0_clean_5 rfl (lv_at hl 1 rfl) ?_
  refine lv_iconst (v := 0) hx hb dX0_clean_6 (by decide) ?_
  refine va_put (D := (dC, dI)) (ci := 0) (v := .int (0 : Int32)) (ty := .int) (C := RX0) (T := TX0) (N := 2) hx hb hts (fun w h => kg1 (iG_0 w h)) tyX0 tyX0_ok nmX0 hown hK hP hD hS 0 rfl rfl 1 (by decide) (hts _ (kg1 mG_7)) (fun _ h9 => h9) rfl rfl rfl rfl (Nat.le_of_ble_eq_true rfl) dX0_clean_7 (fun H locs hP hD hS => ?_)
  have hP : va_P (dC, dI) vwCl [(q0, .inr (0, [.ref q0sg, .int (0 : Int32)])), (q0sg, .inl (cI, 60, .inl sg))] H := hP
  have hD : va_D A [(q0, .inr (0, [.ref q0sg, .int (0 : Int32)])), (q0sg, .inl (cI, 60, .inl sg))] := hD
  refine lv_iload_n hx hb dX0_clean_10 rfl (lv_at hl 0 rfl) ?_
  cases hs
  exact hret _ _ _ _ hP hD hS (vp_nar_int _) dX0_clean_11
abbrev rm_X0_faultPlace : Room := { frames := 1, cells := 0, slots := 0, locals := 22 }
theorem hd_X0_faultPlace : yX0_faultPlace.cls ≠ "java/lang/invoke/MethodHandle" ∧ yX0_faultPlace.cls ≠ "java/lang/invoke/VarHandle" ∧ (parseMethodDescriptor yX0_faultPlace.desc).map (fun d => d.parameters.length) = some 0 := by decide +kernel
set_option maxHeartbeats 4000000 in
set_option maxRecDepth 100000 in
theorem k_X0_faultPlace (l : Launch) (dC : Nat → ClassId) (dI : Nat → Nat → Nat) (cI cZ cS : ClassId) (q0 q0sg : Nat) (sz : Nat) (ct : Int32) (sg : Ar)  (r0 : Int32) (hs : m_X0_faultPlace ct sg = some r0) : Met l yX0_faultPlace (.code yX0_faultPlace cX0_faultPlace 4 (some .int) :: kG) rm_X0_faultPlace (va_Pc [.ref q0] (kW (dC, dI) cI cZ cS [(q0, .inr (0, [.ref q0sg, .int ct])), (q0sg, .inl (cI, 60, .inl sg))] sz)) (kQi (dC, dI) [(q0, .inr (0, [.ref q0sg, .int ct])), (q0sg, .inl (cI, 60, .inl sg))] [(q0, .inr (0, [.ref q0sg, .int ct])), (q0sg, .inl (cI, 60, .inl sg))] sz r0) 0 0 (va_A [(q0, .inr (0, [.ref q0sg, .int ct])), (q0sg, .inl (cI, 60, .inl sg))] sz) := by
  refine kMi (own := RX0) (ty := .int) rfl (by decide) rfl ?_ (Nat.le_of_ble_eq_true rfl)
  intro p e s m args below meth c Q A CF hK hN hA hP hD hret ls hl
  have hS : va_S A s.heap s.heap [] := va_S.rf
  obtain ⟨hx, hb, hml, hown, hts⟩ := id CF
  have hl : lv_has ls 4 [(0, .ref q0)] := hl
  unfold m_X0_faultPlace at hs
  refine lv_iconst (v := 0) hx hb dX0_faultPlace_0 (by decide) ?_
  refine lv_istore_n (lv' := [(1, .int (0 : Int32)), (0, .ref q0)]) hx hb dX0_faultPlace_1 rfl hl (by decide) rfl (fun ls hl => ?_)
  refine lv_iconst (v := 0) hx hb dX0_faultPlace_2 (by decide) ?_
  refine lv_istore_n (lv' := [(2, .int (0 : Int32)), (1, .int (0 : Int32)), (0, .ref q0)]) hx hb dX0_faultPlace_3 rfl hl (by decide) rfl (fun ls hl => ?_)
  have hL_4 : ∀ (n : Nat) (v1 : Int32) (v2 : Int32) (H : Heap) (locs : List Loc) (ls : Array Slot), va_P (dC, dI) vwCl [(q0, .inr (0, [.ref q0sg, .int ct])), (q0sg, .inl (cI, 60, .inl sg))] H → va_D A [(q0, .inr (0, [.ref q0sg, .int ct])), (q0sg, .inl (cI, 60, .inl sg))] → va_S A s.heap H locs → lv_has ls 4 [(0, .ref q0), (1, .int v1), (2, .int v2)] → L_X0_faultPlace_4 ct sg n v1 v2 = some r0 → W p l e rm_X0_faultPlace s m args below meth c H locs 0 0 Q (F0 m 4 ls []) := by
    intro n
    induction n with
    | zero =>
      intro v1 v2 H locs ls hP hD hS hl hs
      replace hs : (none : Option (Int32)) = some r0 := hs
      cases hs
    | succ n_4 ih_4 =>
      intro v1 v2 H locs ls hP hD hS hl hs
      replace hs : b_X0_faultPlace_4  (L_X0_faultPlace_4 ct sg n_4) ct sg v1 v2 = some r0 := hs
      unfold b_X0_faultPlace_4 at hs
      refine lv_iload_n hx hb dX0_faultPlace_4 rfl (lv_at hl 2 rfl) ?_
      refine lv_aload_n hx hb dX0_faultPlace_5 rfl (lv_at hl 0 rfl) ?_
      refine va_get (D := (dC, dI)) (ci := 0) (v := .int ct) (C := RX0) (T := TX0) (N := 2) hx hb hts (fun w h => kg1 (iG_0 w h)) hown hK hP 0 rfl rfl 1 (by decide) (hts _ (kg1 mG_7)) (fun _ h9 => h9) rfl dX0_faultPlace_6 ?_
      have hJ_74 : ∀ (v1 : Int32) (H : Heap) (locs : List Loc) (ls : Array Slot), va_P (dC, dI) vwCl [(q0, .inr (0, [.ref q0sg, .int ct])), (q0sg, .inl (cI, 60, .inl sg))] H → va_D A [(q0, .inr (0, [.ref q0sg, .int ct])), (q0sg, .inl (cI, 60, .inl sg))] → va_S A s.heap H locs → lv_has ls 4 [(0, .ref q0), (1, .int v1)] → j_X0_faultPlace_74 v1 ct = some r0 → W p l e rm_X0_faultPlace s m args below meth c H locs 0 0 Q (F0 m 74 ls []) := by
        intro v1 H locs ls hP hD hS hl hs
        unfold j_X0_faultPlace_74 at hs
        refine lv_iload_n hx hb dX0_faultPlace_74 rfl (lv_at hl 1 rfl) ?_
        refine lv_if_eq (tgt := 85) hx hb dX0_faultPlace_75 (by decide) (fun c_7 => ?_) (fun c_7 => ?_)
        · replace hs := if_p c_7 hs
          refine lv_bipush (v := -6) hx hb dX0_faultPlace_85 (by decide) ?_
          cases hs
          exact hret _ _ _ _ hP hD hS (vp_nar_int _) dX0_faultPlace_87
        · replace hs := if_n c_7 hs
          refine lv_aload_n hx hb dX0_faultPlace_78 rfl (lv_at hl 0 rfl) ?_
          refine va_get (D := (dC, dI)) (ci := 0) (v := .int ct) (C := RX0) (T := TX0) (N := 2) hx hb hts (fun w h => kg1 (iG_0 w h)) hown hK hP 0 rfl rfl 1 (by decide) (hts _ (kg1 mG_7)) (fun _ h9 => h9) rfl dX0_faultPlace_79 ?_
          refine lv_goto (tgt := 87) hx hb dX0_faultPlace_82 (by decide) ?_
          cases hs
          exact hret _ _ _ _ hP hD hS (vp_nar_int _) dX0_faultPlace_87
      refine lv_icmp_ge (tgt := 74) hx hb dX0_faultPlace_9 (by decide) (fun c_1 => ?_) (fun c_1 => ?_)
      · replace hs := if_p c_1 hs
        exact hJ_74 v1 _ _ _ hP hD hS (lv_sub hl [0, 1] rfl) hs
      · replace hs := if_n c_1 hs
        refine lv_iload_n hx hb dX0_faultPlace_12 rfl (lv_at hl 2 rfl) ?_
        refine lv_bipush (v := 60) hx hb dX0_faultPlace_13 (by decide) ?_
        refine lv_icmp_ge (tgt := 74) hx hb dX0_faultPlace_15 (by decide) (fun c_2 => ?_) (fun c_2 => ?_)
        · replace hs := if_p c_2 hs
          exact hJ_74 v1 _ _ _ hP hD hS (lv_sub hl [0, 1] rfl) hs
        · replace hs := if_n c_2 hs
          refine lv_aload_n hx hb dX0_faultPlace_18 rfl (lv_at hl 0 rfl) ?_
          refine va_get (D := (dC, dI)) (ci := 0) (v := .ref q0sg) (C := RX0) (T := TX0) (N := 2) hx hb hts (fun w h => kg1 (iG_0 w h)) hown hK hP 0 rfl rfl 0 (by decide) (hts _ (kg1 mG_5)) (fun _ h9 => h9) rfl dX0_faultPlace_19 ?_
          refine lv_iload_n hx hb dX0_faultPlace_22 rfl (lv_at hl 2 rfl) ?_
          obtain ⟨hg_3, hs⟩ := gd_e hs
          refine kald hx hb hK hP 1 0 rfl rfl (j := (Int32.toNatClampNeg v2)) rfl (inb_e hg_3) dX0_faultPlace_23 ?_
          refine lv_istore_n (lv' := [(3, .int (sg (Int32.toNatClampNeg v2))), (0, .ref q0), (1, .int v1), (2, .int v2)]) hx hb dX0_faultPlace_24 rfl hl (by decide) rfl (fun ls hl => ?_)
          refine lv_iload_n hx hb dX0_faultPlace_25 rfl (lv_at hl 2 rfl) ?_
          have hJ_52 : ∀ (v1 : Int32) (v2 : Int32) (v3 : Int32) (H : Heap) (locs : List Loc) (ls : Array Slot), va_P (dC, dI) vwCl [(q0, .inr (0, [.ref q0sg, .int ct])), (q0sg, .inl (cI, 60, .inl sg))] H → va_D A [(q0, .inr (0, [.ref q0sg, .int ct])), (q0sg, .inl (cI, 60, .inl sg))] → va_S A s.heap H locs → lv_has ls 4 [(0, .ref q0), (1, .int v1), (2, .int v2), (3, .int v3)] → j_X0_faultPlace_52 (L_X0_faultPlace_4 ct sg n_4) v1 v2 v3 = some r0 → W p l e rm_X0_faultPlace s m args below meth c H locs 0 0 Q (F0 m 52 ls []) := by
            intro v1 v2 v3 H locs ls hP hD hS hl hs
            unfold j_X0_faultPlace_52 at hs
            refine lv_iload_n hx hb dX0_faultPlace_52 rfl (lv_at hl 1 rfl) ?_
            refine lv_if_ne (tgt := 66) hx hb dX0_faultPlace_53 (by decide) (fun c_8 => ?_) (fun c_8 => ?_)
            · replace hs := if_n c_8 hs
              refine lv_iconst (v := 0) hx hb dX0_faultPlace_66 (by decide) ?_
              refine lv_istore_n (lv' := [(1, .int (0 : Int32)), (0, .ref q0), (2, .int v2), (3, .int v3)]) hx hb dX0_faultPlace_67 rfl hl (by decide) rfl (fun ls hl => ?_)
              refine lv_iinc (v := (v2 + 1)) (lv' := [(2, .int (v2 + 1)), (1, .int (0 : Int32)), (0, .ref q0), (3, .int v3)]) hx hb dX0_faultPlace_68 hl (k := 2) rfl rfl (by decide) rfl (fun ls hl => ?_)
              refine lv_goto (tgt := 4) hx hb dX0_faultPlace_71 (by decide) ?_
              exact ih_4 (0 : Int32) (v2 + 1) _ _ _ hP hD hS (lv_sub hl [2, 1, 0] rfl) hs
            · replace hs := if_p c_8 hs
              refine lv_iload_n hx hb dX0_faultPlace_56 rfl (lv_at hl 3 rfl) ?_
              refine lv_bipush (v := 104) hx hb dX0_faultPlace_57 (by decide) ?_
              refine lv_icmp_ne (tgt := 66) hx hb dX0_faultPlace_59 (by decide) (fun c_9 => ?_) (fun c_9 => ?_)
              · replace hs := if_n c_9 hs
                refine lv_iconst (v := 0) hx hb dX0_faultPlace_66 (by decide) ?_
                refine lv_istore_n (lv' := [(1, .int (0 : Int32)), (0, .ref q0), (2, .int v2), (3, .int v3)]) hx hb dX0_faultPlace_67 rfl hl (by decide) rfl (fun ls hl => ?_)
                refine lv_iinc (v := (v2 + 1)) (lv' := [(2, .int (v2 + 1)), (1, .int (0 : Int32)), (0, .ref q0), (3, .int v3)]) hx hb dX0_faultPlace_68 hl (k := 2) rfl rfl (by decide) rfl (fun ls hl => ?_)
                refine lv_goto (tgt := 4) hx hb dX0_faultPlace_71 (by decide) ?_
                exact ih_4 (0 : Int32) (v2 + 1) _ _ _ hP hD hS (lv_sub hl [2, 1, 0] rfl) hs
              · replace hs := if_p c_9 hs
                refine lv_iconst (v := 1) hx hb dX0_faultPlace_62 (by decide) ?_
                refine lv_goto (tgt := 67) hx hb dX0_faultPlace_63 (by decide) ?_
                refine lv_istore_n (lv' := [(1, .int (1 : Int32)), (0, .ref q0), (2, .int v2), (3, .int v3)]) hx hb dX0_faultPlace_67 rfl hl (by decide) rfl (fun ls hl => ?_)
                refine lv_iinc (v := (v2 + 1)) (lv' := [(2, .int (v2 + 1)), (1, .int (1 : Int32)), (0, .ref q0), (3, .int v3)]) hx hb dX0_faultPlace_68 hl (k := 2) rfl rfl (by decide) rfl (fun ls hl => ?_)
                refine lv_goto (tgt := 4) hx hb dX0_faultPlace_71 (by decide) ?_
                exact ih_4 (1 : Int32) (v2 + 1) _ _ _ hP hD hS (lv_sub hl [2, 1, 0] rfl) hs
          refine lv_if_eq (tgt := 43) hx hb dX0_faultPlace_26 (by decide) (fun c_4 => ?_) (fun c_4 => ?_)
          · replace hs := if_p c_4 hs
            refine lv_iload_n hx hb dX0_faultPlace_43 rfl (lv_at hl 0 rfl) ?_
            refine kpi (va_runS (As := [.int (sg (Int32.toNatClampNeg v2))]) (rest := []) ⟨hx, hb, hml, hown, hts⟩ (k_X0_isAct l (sg (Int32.toNatClampNeg v2)) _ rfl) (va_cwS 1 hts (kGood (kgS mG_14 mG_15 mG_16 mG_10)) rfl rfl rfl hd_X0_isAct ⟨Nat.le_of_ble_eq_true rfl, Nat.le_of_ble_eq_true rfl⟩) preEq rfl rfl hl.1 rfl (lv_room (Nat.le_of_ble_eq_true rfl)) dX0_faultPlace_44 ⟨Nat.zero_le _, Nat.zero_le _⟩) ?_
            refine lv_if_ne (tgt := 52) hx hb dX0_faultPlace_47 (by decide) (fun c_5 => ?_) (fun c_5 => ?_)
            · replace hs := if_n c_5 hs
              exact hJ_52 v1 v2 (sg (Int32.toNatClampNeg v2)) _ _ _ hP hD hS (lv_sub hl [1, 2, 3, 0] rfl) hs
            · replace hs := if_p c_5 hs
              refine lv_iload_n hx hb dX0_faultPlace_50 rfl (lv_at hl 3 rfl) ?_
              cases hs
              exact hret _ _ _ _ hP hD hS (vp_nar_int _) dX0_faultPlace_51
          · replace hs := if_n c_4 hs
            refine lv_iload_n hx hb dX0_faultPlace_29 rfl (lv_at hl 0 rfl) ?_
            refine lv_bipush (v := 48) hx hb dX0_faultPlace_30 (by decide) ?_
            refine lv_bipush (v := 57) hx hb dX0_faultPlace_32 (by decide) ?_
            refine kpi (va_runSN (As := [.int (sg (Int32.toNatClampNeg v2)), .int (48 : Int32), .int (57 : Int32)]) (rest := []) ⟨hx, hb, hml, hown, hts⟩ (k_X4_isOutside l (sg (Int32.toNatClampNeg v2)) (48 : Int32) (57 : Int32) _ rfl) ⟨va_cnB 3 hts (kGood (kgs mG_9)) rfl rfl rfl hN.2.2.1 (hts _ (kg1 mG_13)) hd_X4_isOutside ⟨Nat.le_of_ble_eq_true rfl, Nat.le_of_ble_eq_true rfl⟩, hts _ (kg1 mG_12), trivial⟩ preEq rfl rfl hl.1 rfl (lv_room (Nat.le_of_ble_eq_true rfl)) dX0_faultPlace_34 ⟨Nat.zero_le _, Nat.zero_le _⟩) ?_
            refine lv_if_eq (tgt := 52) hx hb dX0_faultPlace_37 (by decide) (fun c_6 => ?_) (fun c_6 => ?_)
            · replace hs := if_p c_6 hs
              exact hJ_52 v1 v2 (sg (Int32.toNatClampNeg v2)) _ _ _ hP hD hS (lv_sub hl [1, 2, 3, 0] rfl) hs
            · replace hs := if_n c_6 hs
              refine lv_goto (tgt := 50) hx hb dX0_faultPlace_40 (by decide) ?_
              refine lv_iload_n hx hb dX0_faultPlace_50 rfl (lv_at hl 3 rfl) ?_
              cases hs
              exact hret _ _ _ _ hP hD hS (vp_nar_int _) dX0_faultPlace_51
  exact hL_4 fu (0 : Int32) (0 : Int32) _ _ _ hP hD hS (lv_sub hl [2, 1, 0] rfl) hs
abbrev rm_X0_toneBehind : Room := { frames := 0, cells := 0, slots := 0, locals := 0 }
theorem hd_X0_toneBehind : yX0_toneBehind.cls ≠ "java/lang/invoke/MethodHandle" ∧ yX0_toneBehind.cls ≠ "java/lang/invoke/VarHandle" ∧ (parseMethodDescriptor yX0_toneBehind.desc).map (fun d => d.parameters.length) = some 1 := by decide +kernel
set_option maxHeartbeats 4000000 in
set_option maxRecDepth 100000 in
theorem k_X0_toneBehind (l : Launch) (dC : Nat → ClassId) (dI : Nat → Nat → Nat) (cI cZ cS : ClassId) (q0 q0sg : Nat) (sz : Nat) (ct : Int32) (sg : Ar) (v1 : Int32) (r0 : Int32) (hs : m_X0_toneBehind v1 ct sg = some r0) : Met l yX0_toneBehind (.code yX0_toneBehind cX0_toneBehind 3 (some .int) :: kG) rm_X0_toneBehind (va_Pc [.ref q0, .int v1] (kW (dC, dI) cI cZ cS [(q0, .inr (0, [.ref q0sg, .int ct])), (q0sg, .inl (cI, 60, .inl sg))] sz)) (kQi (dC, dI) [(q0, .inr (0, [.ref q0sg, .int ct])), (q0sg, .inl (cI, 60, .inl sg))] [(q0, .inr (0, [.ref q0sg, .int ct])), (q0sg, .inl (cI, 60, .inl sg))] sz r0) 0 0 (va_A [(q0, .inr (0, [.ref q0sg, .int ct])), (q0sg, .inl (cI, 60, .inl sg))] sz) := by
  refine kMi (own := RX0) (ty := .int) rfl (by decide) rfl ?_ (Nat.le_of_ble_eq_true rfl)
  intro p e s m args below meth c Q A CF hK hN hA hP hD hret ls hl
  have hS : va_S A s.heap s.heap [] := va_S.rf
  obtain ⟨hx, hb, hml, hown, hts⟩ := id CF
  have hl : lv_has ls 3 [(0, .ref q0), (1, .int v1)] := hl
  unfold m_X0_toneBehind at hs
  refine lv_iload_n hx hb dX0_toneBehind_0 rfl (lv_at hl 1 rfl) ?_
  refine lv_iconst (v := 1) hx hb dX0_toneBehind_1 (by decide) ?_
  refine lv_iadd hx hb dX0_toneBehind_2 ?_
  refine lv_istore_n (lv' := [(2, .int (v1 + (1 : Int32))), (0, .ref q0), (1, .int v1)]) hx hb dX0_toneBehind_3 rfl hl (by decide) rfl (fun ls hl => ?_)
  refine lv_iload_n hx hb dX0_toneBehind_4 rfl (lv_at hl 0 rfl) ?_
  refine lv_aload_n hx hb dX0_toneBehind_5 rfl (lv_at hl 1 rfl) ?_
  refine va_get (D := (dC, dI)) (ci := 0) (v := .int ct) (C := RX0) (T := TX0) (N := 2) hx hb hts (fun w h => kg1 (iG_0 w h)) hown hK hP 0 rfl rfl 1 (by decide) (hts _ (kg1 mG_7)) (fun _ h9 => h9) rfl dX0_toneBehind_6 ?_
  refine lv_icmp_ge (tgt := 30) hx hb dX0_toneBehind_9 (by decide) (fun c_1 => ?_) (fun c_1 => ?_)
  · replace hs := if_p c_1 hs
    refine lv_iconst (v := 0) hx hb dX0_toneBehind_30 (by decide) ?_
    cases hs
    exact hret _ _ _ _ hP hD hS (vp_nar_int _) dX0_toneBehind_31
  · replace hs := if_n c_1 hs
    refine lv_iload_n hx hb dX0_toneBehind_12 rfl (lv_at hl 0 rfl) ?_
    refine lv_bipush (v := 60) hx hb dX0_toneBehind_13 (by decide) ?_
    refine lv_icmp_ge (tgt := 30) hx hb dX0_toneBehind_15 (by decide) (fun c_2 => ?_) (fun c_2 => ?_)
    · replace hs := if_p c_2 hs
      refine lv_iconst (v := 0) hx hb dX0_toneBehind_30 (by decide) ?_
      cases hs
      exact hret _ _ _ _ hP hD hS (vp_nar_int _) dX0_toneBehind_31
    · replace hs := if_n c_2 hs
      refine lv_aload_n hx hb dX0_toneBehind_18 rfl (lv_at hl 1 rfl) ?_
      refine va_get (D := (dC, dI)) (ci := 0) (v := .ref q0sg) (C := RX0) (T := TX0) (N := 2) hx hb hts (fun w h => kg1 (iG_0 w h)) hown hK hP 0 rfl rfl 0 (by decide) (hts _ (kg1 mG_5)) (fun _ h9 => h9) rfl dX0_toneBehind_19 ?_
      refine lv_iload_n hx hb dX0_toneBehind_22 rfl (lv_at hl 0 rfl) ?_
      obtain ⟨hg_3, hs⟩ := gd_e hs
      refine kald hx hb hK hP 1 0 rfl rfl (j := (Int32.toNatClampNeg (v1 + (1 : Int32)))) rfl (inb_e hg_3) dX0_toneBehind_23 ?_
      refine lv_bipush (v := 48) hx hb dX0_toneBehind_24 (by decide) ?_
      refine lv_isub hx hb dX0_toneBehind_26 ?_
      refine lv_goto (tgt := 31) hx hb dX0_toneBehind_27 (by decide) ?_
      cases hs
      exact hret _ _ _ _ hP hD hS (vp_nar_int _) dX0_toneBehind_31
abbrev rm_X1_copyFrom : Room := { frames := 2, cells := 0, slots := 0, locals := 39 }
theorem hd_X1_copyFrom : yX1_copyFrom.cls ≠ "java/lang/invoke/MethodHandle" ∧ yX1_copyFrom.cls ≠ "java/lang/invoke/VarHandle" ∧ (parseMethodDescriptor yX1_copyFrom.desc).map (fun d => d.parameters.length) = some 1 := by decide +kernel
set_option maxHeartbeats 4000000 in
set_option maxRecDepth 100000 in
theorem k_X1_copyFrom (l : Launch) (dC : Nat → ClassId) (dI : Nat → Nat → Nat) (cI cZ cS : ClassId) (q1 q3 q3fi q3to q1ne q12 q32 q3fi2 q3to2 q1ne2 : Nat) (sz : Nat) (si : Int32) (ft : Int32) (th : Int32) (he : Int32) (ma : Int32) (ro : Int32) (fi : Ar) (to : Ar) (ne : Ar) (si2 : Int32) (ft2 : Int32) (th2 : Int32) (he2 : Int32) (ma2 : Int32) (ro2 : Int32) (fi2 : Ar) (to2 : Ar) (ne2 : Ar)  (si_o : Int32) (ft_o : Int32) (th_o : Int32) (he_o : Int32) (ma_o : Int32) (ro_o : Int32) (fi_o : Ar) (to_o : Ar) (ne_o : Ar) (hs : m_X1_copyFrom fi to ne si2 ft2 th2 he2 ma2 ro2 fi2 to2 ne2 = some (si_o, ft_o, th_o, he_o, ma_o, ro_o, fi_o, to_o, ne_o)) : Met l yX1_copyFrom (.code yX1_copyFrom cX1_copyFrom 2 none :: kG) rm_X1_copyFrom (va_Pc [.ref q1, .ref q12] (kW (dC, dI) cI cZ cS [(q1, .inr (1, [.ref q3, .ref q1ne, .int si, .int ft])), (q3, .inr (3, [.ref q3fi, .ref q3to, .int th, .int he, .int ma, .int ro])), (q3fi, .inl (cI, 12, .inl fi)), (q3to, .inl (cI, 12, .inl to)), (q1ne, .inl (cI, 8, .inl ne)), (q12, .inr (1, [.ref q32, .ref q1ne2, .int si2, .int ft2])), (q32, .inr (3, [.ref q3fi2, .ref q3to2, .int th2, .int he2, .int ma2, .int ro2])), (q3fi2, .inl (cI, 12, .inl fi2)), (q3to2, .inl (cI, 12, .inl to2)), (q1ne2, .inl (cI, 8, .inl ne2))] sz)) (kQv (dC, dI) [(q1, .inr (1, [.ref q3, .ref q1ne, .int si, .int ft])), (q3, .inr (3, [.ref q3fi, .ref q3to, .int th, .int he, .int ma, .int ro])), (q3fi, .inl (cI, 12, .inl fi)), (q3to, .inl (cI, 12, .inl to)), (q1ne, .inl (cI, 8, .inl ne)), (q12, .inr (1, [.ref q32, .ref q1ne2, .int si2, .int ft2])), (q32, .inr (3, [.ref q3fi2, .ref q3to2, .int th2, .int he2, .int ma2, .int ro2])), (q3fi2, .inl (cI, 12, .inl fi2)), (q3to2, .inl (cI, 12, .inl to2)), (q1ne2, .inl (cI, 8, .inl ne2))] [(q1, .inr (1, [.ref q3, .ref q1ne, .int si_o, .int ft_o])), (q3, .inr (3, [.ref q3fi, .ref q3to, .int th_o, .int he_o, .int ma_o, .int ro_o])), (q3fi, .inl (cI, 12, .inl fi_o)), (q3to, .inl (cI, 12, .inl to_o)), (q1ne, .inl (cI, 8, .inl ne_o)), (q12, .inr (1, [.ref q32, .ref q1ne2, .int si2, .int ft2])), (q32, .inr (3, [.ref q3fi2, .ref q3to2, .int th2, .int he2, .int ma2, .int ro2])), (q3fi2, .inl (cI, 12, .inl fi2)), (q3to2, .inl (cI, 12, .inl to2)), (q1ne2, .inl (cI, 8, .inl ne2))] sz) 0 0 (va_A [(q1, .inr (1, [.ref q3, .ref q1ne, .int si, .int ft])), (q3, .inr (3, [.ref q3fi, .ref q3to, .int th, .int he, .int ma, .int ro])), (q3fi, .inl (cI, 12, .inl fi)), (q3to, .inl (cI, 12, .inl to)), (q1ne, .inl (cI, 8, .inl ne)), (q12, .inr (1, [.ref q32, .ref q1ne2, .int si2, .int ft2])), (q32, .inr (3, [.ref q3fi2, .ref q3to2, .int th2, .int he2, .int ma2, .int ro2])), (q3fi2, .inl (cI, 12, .inl fi2)), (q3to2, .inl (cI, 12, .inl to2)), (q1ne2, .inl (cI, 8, .inl ne2))] sz) := by
  refine kMv (own := RX1) (by decide) rfl ?_ (Nat.le_of_ble_eq_true rfl)
  intro p e s m args below meth c Q A CF hK hN hA hP hD hret ls hl
  have hS : va_S A s.heap s.heap [] := va_S.rf
  obtain ⟨hx, hb, hml, hown, hts⟩ := id CF
  have hl : lv_has ls 2 [(0, .ref q1), (1, .ref q12)] := hl
  unfold m_X1_copyFrom at hs
  refine lv_aload_n hx hb dX1_copyFrom_0 rfl (lv_at hl 0 rfl) ?_
  refine va_get (D := (dC, dI)) (ci := 1) (v := .ref q3) (C := RX1) (T := TX1) (N := 4) hx hb hts (fun w h => kg1 (iG_1 w h)) hown hK hP 0 rfl rfl 0 (by decide) (hts _ (kg1 mG_31)) (fun _ h9 => h9) rfl dX1_copyFrom_1 ?_
  refine lv_aload_n hx hb dX1_copyFrom_4 rfl (lv_at hl 1 rfl) ?_
  refine va_get (D := (dC, dI)) (ci := 1) (v := .ref q32) (C := RX1) (T := TX1) (N := 4) hx hb hts (fun w h => kg1 (iG_1 w h)) hown hK hP 5 rfl rfl 0 (by decide) (hts _ (kg1 mG_31)) (fun _ h9 => h9) rfl dX1_copyFrom_5 ?_
  obtain ⟨th_1, he_2, ma_3, ro_4, fi_5, to_6, hc_7, hs⟩ := ob6_e hs
  refine kcv (wr := [(q1, .inr (1, [.ref q3, .ref q1ne, .int si, .int ft])), (q1ne, .inl (cI, 8, .inl ne)), (q12, .inr (1, [.ref q32, .ref q1ne2, .int si2, .int ft2])), (q1ne2, .inl (cI, 8, .inl ne2))]) (ws' := [(q1, .inr (1, [.ref q3, .ref q1ne, .int si, .int ft])), (q3, .inr (3, [.ref q3fi, .ref q3to, .int th_1, .int he_2, .int ma_3, .int ro_4])), (q3fi, .inl (cI, 12, .inl fi_5)), (q3to, .inl (cI, 12, .inl to_6)), (q1ne, .inl (cI, 8, .inl ne)), (q12, .inr (1, [.ref q32, .ref q1ne2, .int si2, .int ft2])), (q32, .inr (3, [.ref q3fi2, .ref q3to2, .int th2, .int he2, .int ma2, .int ro2])), (q3fi2, .inl (cI, 12, .inl fi2)), (q3to2, .inl (cI, 12, .inl to2)), (q1ne2, .inl (cI, 8, .inl ne2))]) (va_runV (As := [.ref q32]) (rest := []) ⟨hx, hb, hml, hown, hts⟩ (k_X3_copyFrom l dC dI cI cZ cS q3 q3fi q3to q32 q3fi2 q3to2 s.heap.size th he ma ro fi to th2 he2 ma2 ro2 fi2 to2 th_1 he_2 ma_3 ro_4 fi_5 to_6 hc_7) (cwV 1 hts (kGood (kgV mG_49 mG_50 mG_51 mG_30 mG_37)) rfl rfl rfl ⟨rfl, hd_X3_copyFrom⟩ ⟨Nat.le_of_ble_eq_true rfl, Nat.le_of_ble_eq_true rfl⟩) (kpV hK hN (hP.sub (ws' := [(q3, .inr (3, [.ref q3fi, .ref q3to, .int th, .int he, .int ma, .int ro])), (q3fi, .inl (cI, 12, .inl fi)), (q3to, .inl (cI, 12, .inl to)), (q32, .inr (3, [.ref q3fi2, .ref q3to2, .int th2, .int he2, .int ma2, .int ro2])), (q3fi2, .inl (cI, 12, .inl fi2)), (q3to2, .inl (cI, 12, .inl to2))]) [1, 2, 3, 6, 7, 8] rfl) (hD.sub (ws' := [(q3, .inr (3, [.ref q3fi, .ref q3to, .int th, .int he, .int ma, .int ro])), (q3fi, .inl (cI, 12, .inl fi)), (q3to, .inl (cI, 12, .inl to)), (q32, .inr (3, [.ref q3fi2, .ref q3to2, .int th2, .int he2, .int ma2, .int ro2])), (q3fi2, .inl (cI, 12, .inl fi2)), (q3to2, .inl (cI, 12, .inl to2))]) [1, 2, 3, 6, 7, 8] rfl rfl) rfl rfl rfl) rfl rfl hl.1 rfl (lv_room (Nat.le_of_ble_eq_true rfl)) dX1_copyFrom_8 ⟨Nat.zero_le _, Nat.zero_le _⟩) hP hD hS hA [1, 2, 3, 6, 7, 8] [0, 4, 5, 9] [0, 4, 5, 6, 1, 2, 7, 8, 9, 3] rfl rfl rfl (by decide) rfl rfl (fun H locs hP hD hS => ?_)
  refine lv_aload_n hx hb dX1_copyFrom_11 rfl (lv_at hl 1 rfl) ?_
  refine va_get (D := (dC, dI)) (ci := 1) (v := .ref q1ne2) (C := RX1) (T := TX1) (N := 4) hx hb hts (fun w h => kg1 (iG_1 w h)) hown hK hP 5 rfl rfl 1 (by decide) (hts _ (kg1 mG_32)) (fun _ h9 => h9) rfl dX1_copyFrom_12 ?_
  refine lv_iconst (v := 0) hx hb dX1_copyFrom_15 (by decide) ?_
  refine lv_aload_n hx hb dX1_copyFrom_16 rfl (lv_at hl 0 rfl) ?_
  refine va_get (D := (dC, dI)) (ci := 1) (v := .ref q1ne) (C := RX1) (T := TX1) (N := 4) hx hb hts (fun w h => kg1 (iG_1 w h)) hown hK hP 0 rfl rfl 1 (by decide) (hts _ (kg1 mG_32)) (fun _ h9 => h9) rfl dX1_copyFrom_17 ?_
  refine lv_iconst (v := 0) hx hb dX1_copyFrom_20 (by decide) ?_
  refine lv_bipush (v := 8) hx hb dX1_copyFrom_21 (by decide) ?_
  refine va_copyi hx hb (by rw [hml]; exact hl.1.symm) hown (hts _ (kg1 mG_47)) (hts _ (kg1 mG_39)) (hts _ (kg1 mG_40)) (hts _ (kg1 mG_41)) hK hP hD hS 9 4 0 0 rfl rfl rfl rfl rfl (by decide) (by decide) (by decide) (by decide) (by decide) (fun i _ => rfl) (Nat.le_of_ble_eq_true rfl) (Nat.le_of_ble_eq_true rfl) dX1_copyFrom_23 (fun H locs hP hD hS => ?_)
  have hP : va_P (dC, dI) vwCl [(q1, .inr (1, [.ref q3, .ref q1ne, .int si, .int ft])), (q3, .inr (3, [.ref q3fi, .ref q3to, .int th_1, .int he_2, .int ma_3, .int ro_4])), (q3fi, .inl (cI, 12, .inl fi_5)), (q3to, .inl (cI, 12, .inl to_6)), (q1ne, .inl (cI, 8, .inl (va_cpy ne2 ne 0 0 8))), (q12, .inr (1, [.ref q32, .ref q1ne2, .int si2, .int ft2])), (q32, .inr (3, [.ref q3fi2, .ref q3to2, .int th2, .int he2, .int ma2, .int ro2])), (q3fi2, .inl (cI, 12, .inl fi2)), (q3to2, .inl (cI, 12, .inl to2)), (q1ne2, .inl (cI, 8, .inl ne2))] H := hP
  have hD : va_D A [(q1, .inr (1, [.ref q3, .ref q1ne, .int si, .int ft])), (q3, .inr (3, [.ref q3fi, .ref q3to, .int th_1, .int he_2, .int ma_3, .int ro_4])), (q3fi, .inl (cI, 12, .inl fi_5)), (q3to, .inl (cI, 12, .inl to_6)), (q1ne, .inl (cI, 8, .inl (va_cpy ne2 ne 0 0 8))), (q12, .inr (1, [.ref q32, .ref q1ne2, .int si2, .int ft2])), (q32, .inr (3, [.ref q3fi2, .ref q3to2, .int th2, .int he2, .int ma2, .int ro2])), (q3fi2, .inl (cI, 12, .inl fi2)), (q3to2, .inl (cI, 12, .inl to2)), (q1ne2, .inl (cI, 8, .inl ne2))] := hD
  refine lv_aload_n hx hb dX1_copyFrom_26 rfl (lv_at hl 0 rfl) ?_
  refine lv_aload_n hx hb dX1_copyFrom_27 rfl (lv_at hl 1 rfl) ?_
  refine va_get (D := (dC, dI)) (ci := 1) (v := .int si2) (C := RX1) (T := TX1) (N := 4) hx hb hts (fun w h => kg1 (iG_1 w h)) hown hK hP 5 rfl rfl 2 (by decide) (hts _ (kg1 mG_48)) (fun _ h9 => h9) rfl dX1_copyFrom_28 ?_
  refine va_put (D := (dC, dI)) (ci := 1) (v := .int si2) (ty := .int) (C := RX1) (T := TX1) (N := 4) hx hb hts (fun w h => kg1 (iG_1 w h)) tyX1 tyX1_ok nmX1 hown hK hP hD hS 0 rfl rfl 2 (by decide) (hts _ (kg1 mG_48)) (fun _ h9 => h9) rfl rfl rfl rfl (Nat.le_of_ble_eq_true rfl) dX1_copyFrom_31 (fun H locs hP hD hS => ?_)
  have hP : va_P (dC, dI) vwCl [(q1, .inr (1, [.ref q3, .ref q1ne, .int si2, .int ft])), (q3, .inr (3, [.ref q3fi, .ref q3to, .int th_1, .int he_2, .int ma_3, .int ro_4])), (q3fi, .inl (cI, 12, .inl fi_5)), (q3to, .inl (cI, 12, .inl to_6)), (q1ne, .inl (cI, 8, .inl (va_cpy ne2 ne 0 0 8))), (q12, .inr (1, [.ref q32, .ref q1ne2, .int si2, .int ft2])), (q32, .inr (3, [.ref q3fi2, .ref q3to2, .int th2, .int he2, .int ma2, .int ro2])), (q3fi2, .inl (cI, 12, .inl fi2)), (q3to2, .inl (cI, 12, .inl to2)), (q1ne2, .inl (cI, 8, .inl ne2))] H := hP
  have hD : va_D A [(q1, .inr (1, [.ref q3, .ref q1ne, .int si2, .int ft])), (q3, .inr (3, [.ref q3fi, .ref q3to, .int th_1, .int he_2, .int ma_3, .int ro_4])), (q3fi, .inl (cI, 12, .inl fi_5)), (q3to, .inl (cI, 12, .inl to_6)), (q1ne, .inl (cI, 8, .inl (va_cpy ne2 ne 0 0 8))), (q12, .inr (1, [.ref q32, .ref q1ne2, .int si2, .int ft2])), (q32, .inr (3, [.ref q3fi2, .ref q3to2, .int th2, .int he2, .int ma2, .int ro2])), (q3fi2, .inl (cI, 12, .inl fi2)), (q3to2, .inl (cI, 12, .inl to2)), (q1ne2, .inl (cI, 8, .inl ne2))] := hD
  refine lv_aload_n hx hb dX1_copyFrom_34 rfl (lv_at hl 0 rfl) ?_
  refine lv_aload_n hx hb dX1_copyFrom_35 rfl (lv_at hl 1 rfl) ?_
  refine va_get (D := (dC, dI)) (ci := 1) (v := .int ft2) (C := RX1) (T := TX1) (N := 4) hx hb hts (fun w h => kg1 (iG_1 w h)) hown hK hP 5 rfl rfl 3 (by decide) (hts _ (kg1 mG_33)) (fun _ h9 => h9) rfl dX1_copyFrom_36 ?_
  refine va_put (D := (dC, dI)) (ci := 1) (v := .int ft2) (ty := .int) (C := RX1) (T := TX1) (N := 4) hx hb hts (fun w h => kg1 (iG_1 w h)) tyX1 tyX1_ok nmX1 hown hK hP hD hS 0 rfl rfl 3 (by decide) (hts _ (kg1 mG_33)) (fun _ h9 => h9) rfl rfl rfl rfl (Nat.le_of_ble_eq_true rfl) dX1_copyFrom_39 (fun H locs hP hD hS => ?_)
  have hP : va_P (dC, dI) vwCl [(q1, .inr (1, [.ref q3, .ref q1ne, .int si2, .int ft2])), (q3, .inr (3, [.ref q3fi, .ref q3to, .int th_1, .int he_2, .int ma_3, .int ro_4])), (q3fi, .inl (cI, 12, .inl fi_5)), (q3to, .inl (cI, 12, .inl to_6)), (q1ne, .inl (cI, 8, .inl (va_cpy ne2 ne 0 0 8))), (q12, .inr (1, [.ref q32, .ref q1ne2, .int si2, .int ft2])), (q32, .inr (3, [.ref q3fi2, .ref q3to2, .int th2, .int he2, .int ma2, .int ro2])), (q3fi2, .inl (cI, 12, .inl fi2)), (q3to2, .inl (cI, 12, .inl to2)), (q1ne2, .inl (cI, 8, .inl ne2))] H := hP
  have hD : va_D A [(q1, .inr (1, [.ref q3, .ref q1ne, .int si2, .int ft2])), (q3, .inr (3, [.ref q3fi, .ref q3to, .int th_1, .int he_2, .int ma_3, .int ro_4])), (q3fi, .inl (cI, 12, .inl fi_5)), (q3to, .inl (cI, 12, .inl to_6)), (q1ne, .inl (cI, 8, .inl (va_cpy ne2 ne 0 0 8))), (q12, .inr (1, [.ref q32, .ref q1ne2, .int si2, .int ft2])), (q32, .inr (3, [.ref q3fi2, .ref q3to2, .int th2, .int he2, .int ma2, .int ro2])), (q3fi2, .inl (cI, 12, .inl fi2)), (q3to2, .inl (cI, 12, .inl to2)), (q1ne2, .inl (cI, 8, .inl ne2))] := hD
  cases hs
  exact hret _ _ _ _ hP hD hS dX1_copyFrom_42
abbrev rm_X1_moved : Room := { frames := 1, cells := 0, slots := 0, locals := 20 }
theorem hd_X1_moved : yX1_moved.cls ≠ "java/lang/invoke/MethodHandle" ∧ yX1_moved.cls ≠ "java/lang/invoke/VarHandle" ∧ (parseMethodDescriptor yX1_moved.desc).map (fun d => d.parameters.length) = some 1 := by decide +kernel
set_option maxHeartbeats 4000000 in
set_option maxRecDepth 100000 in
theorem k_X1_moved (l : Launch) (dC : Nat → ClassId) (dI : Nat → Nat → Nat) (cI cZ cS : ClassId) (q1 q1ne q3 : Nat) (sz : Nat) (si : Int32) (ft : Int32) (ne : Ar) (v1 : Int32) (r0 : Int32) (hs : m_X1_moved v1 ne = some r0) : Met l yX1_moved (.code yX1_moved cX1_moved 5 (some .int) :: kG) rm_X1_moved (va_Pc [.ref q1, .int v1] (kW (dC, dI) cI cZ cS [(q1, .inr (1, [.ref q3, .ref q1ne, .int si, .int ft])), (q1ne, .inl (cI, 8, .inl ne))] sz)) (kQi (dC, dI) [(q1, .inr (1, [.ref q3, .ref q1ne, .int si, .int ft])), (q1ne, .inl (cI, 8, .inl ne))] [(q1, .inr (1, [.ref q3, .ref q1ne, .int si, .int ft])), (q1ne, .inl (cI, 8, .inl ne))] sz r0) 0 0 (va_A [(q1, .inr (1, [.ref q3, .ref q1ne, .int si, .int ft])), (q1ne, .inl (cI, 8, .inl ne))] sz) := by
  refine kMi (own := RX1) (ty := .int) rfl (by decide) rfl ?_ (Nat.le_of_ble_eq_true rfl)
  intro p e s m args below meth c Q A CF hK hN hA hP hD hret ls hl
  have hS : va_S A s.heap s.heap [] := va_S.rf
  obtain ⟨hx, hb, hml, hown, hts⟩ := id CF
  have hl : lv_has ls 5 [(0, .ref q1), (1, .int v1)] := hl
  unfold m_X1_moved at hs
  refine lv_iload_n hx hb dX1_moved_0 rfl (lv_at hl 1 rfl) ?_
  refine kpi (va_runS (As := [.int v1]) (rest := []) ⟨hx, hb, hml, hown, hts⟩ (k_J6_bitCount_0f7a4 l v1 _ rfl) (va_cwS 1 hts (kGood (kgS mG_57 mG_58 mG_59 mG_52)) rfl rfl rfl hd_J6_bitCount_0f7a4 ⟨Nat.le_of_ble_eq_true rfl, Nat.le_of_ble_eq_true rfl⟩) preEq rfl rfl hl.1 rfl (lv_room (Nat.le_of_ble_eq_true rfl)) dX1_moved_1 ⟨Nat.zero_le _, Nat.zero_le _⟩) ?_
  refine lv_istore_n (lv' := [(2, .int (m_J6_bitCount_0f7a4 v1)), (0, .ref q1), (1, .int v1)]) hx hb dX1_moved_4 rfl hl (by decide) rfl (fun ls hl => ?_)
  refine lv_iconst (v := 0) hx hb dX1_moved_5 (by decide) ?_
  refine lv_istore_n (lv' := [(3, .int (0 : Int32)), (2, .int (m_J6_bitCount_0f7a4 v1)), (0, .ref q1), (1, .int v1)]) hx hb dX1_moved_6 rfl hl (by decide) rfl (fun ls hl => ?_)
  refine lv_iconst (v := 0) hx hb dX1_moved_7 (by decide) ?_
  refine lv_istore (lv' := [(4, .int (0 : Int32)), (3, .int (0 : Int32)), (2, .int (m_J6_bitCount_0f7a4 v1)), (0, .ref q1), (1, .int v1)]) hx hb dX1_moved_8 hl (by decide) rfl (fun ls hl => ?_)
  have hL_10 : ∀ (n : Nat) (v2 : Int32) (v3 : Int32) (v4 : Int32) (H : Heap) (locs : List Loc) (ls : Array Slot), va_P (dC, dI) vwCl [(q1, .inr (1, [.ref q3, .ref q1ne, .int si, .int ft])), (q1ne, .inl (cI, 8, .inl ne))] H → va_D A [(q1, .inr (1, [.ref q3, .ref q1ne, .int si, .int ft])), (q1ne, .inl (cI, 8, .inl ne))] → va_S A s.heap H locs → lv_has ls 5 [(0, .ref q1), (1, .int v1), (2, .int v2), (3, .int v3), (4, .int v4)] → L_X1_moved_10 v1 v2 ne n v3 v4 = some r0 → W p l e rm_X1_moved s m args below meth c H locs 0 0 Q (F0 m 10 ls []) := by
    intro n
    induction n with
    | zero =>
      intro v2 v3 v4 H locs ls hP hD hS hl hs
      replace hs : (none : Option (Int32)) = some r0 := hs
      cases hs
    | succ n_10 ih_10 =>
      intro v2 v3 v4 H locs ls hP hD hS hl hs
      replace hs : b_X1_moved_10  (L_X1_moved_10 v1 v2 ne n_10) v1 v2 ne v3 v4 = some r0 := hs
      unfold b_X1_moved_10 at hs
      refine lv_iload hx hb dX1_moved_10 (lv_at hl 4 rfl) ?_
      refine lv_bipush (v := 8) hx hb dX1_moved_12 (by decide) ?_
      refine lv_icmp_ge (tgt := 50) hx hb dX1_moved_14 (by decide) (fun c_1 => ?_) (fun c_1 => ?_)
      · replace hs := if_p c_1 hs
        refine lv_iload_n hx hb dX1_moved_50 rfl (lv_at hl 3 rfl) ?_
        cases hs
        exact hret _ _ _ _ hP hD hS (vp_nar_int _) dX1_moved_51
      · replace hs := if_n c_1 hs
        refine lv_iload_n hx hb dX1_moved_17 rfl (lv_at hl 1 rfl) ?_
        refine lv_iload hx hb dX1_moved_18 (lv_at hl 4 rfl) ?_
        refine lv_ishr hx hb dX1_moved_20 ?_
        refine lv_iconst (v := 1) hx hb dX1_moved_21 (by decide) ?_
        refine lv_iand hx hb dX1_moved_22 ?_
        refine lv_if_ne (tgt := 44) hx hb dX1_moved_23 (by decide) (fun c_2 => ?_) (fun c_2 => ?_)
        · replace hs := if_n c_2 hs
          refine lv_iinc (v := (v4 + 1)) (lv' := [(4, .int (v4 + 1)), (0, .ref q1), (1, .int v1), (2, .int v2), (3, .int v3)]) hx hb dX1_moved_44 hl (k := 4) rfl rfl (by decide) rfl (fun ls hl => ?_)
          refine lv_goto (tgt := 10) hx hb dX1_moved_47 (by decide) ?_
          exact ih_10 v2 v3 (v4 + 1) _ _ _ hP hD hS (lv_sub hl [1, 2, 3, 4, 0] rfl) hs
        · replace hs := if_p c_2 hs
          refine lv_iload_n hx hb dX1_moved_26 rfl (lv_at hl 2 rfl) ?_
          refine lv_aload_n hx hb dX1_moved_27 rfl (lv_at hl 0 rfl) ?_
          refine va_get (D := (dC, dI)) (ci := 1) (v := .ref q1ne) (C := RX1) (T := TX1) (N := 4) hx hb hts (fun w h => kg1 (iG_1 w h)) hown hK hP 0 rfl rfl 1 (by decide) (hts _ (kg1 mG_32)) (fun _ h9 => h9) rfl dX1_moved_28 ?_
          refine lv_iload hx hb dX1_moved_31 (lv_at hl 4 rfl) ?_
          obtain ⟨hg_3, hs⟩ := gd_e hs
          refine kald hx hb hK hP 1 0 rfl rfl (j := (Int32.toNatClampNeg v4)) rfl (inb_e hg_3) dX1_moved_33 ?_
          refine lv_icmp_lt (tgt := 44) hx hb dX1_moved_34 (by decide) (fun c_4 => ?_) (fun c_4 => ?_)
          · replace hs := if_p c_4 hs
            refine lv_iinc (v := (v4 + 1)) (lv' := [(4, .int (v4 + 1)), (0, .ref q1), (1, .int v1), (2, .int v2), (3, .int v3)]) hx hb dX1_moved_44 hl (k := 4) rfl rfl (by decide) rfl (fun ls hl => ?_)
            refine lv_goto (tgt := 10) hx hb dX1_moved_47 (by decide) ?_
            exact ih_10 v2 v3 (v4 + 1) _ _ _ hP hD hS (lv_sub hl [1, 2, 3, 4, 0] rfl) hs
          · replace hs := if_n c_4 hs
            refine lv_iload_n hx hb dX1_moved_37 rfl (lv_at hl 3 rfl) ?_
            refine lv_iconst (v := 1) hx hb dX1_moved_38 (by decide) ?_
            refine lv_iload hx hb dX1_moved_39 (lv_at hl 4 rfl) ?_
            refine lv_ishl hx hb dX1_moved_41 ?_
            refine lv_ior hx hb dX1_moved_42 ?_
            refine lv_istore_n (lv' := [(3, .int (v3 ||| ((1 : Int32) <<< (v4 &&& 31)))), (0, .ref q1), (1, .int v1), (2, .int v2), (4, .int v4)]) hx hb dX1_moved_43 rfl hl (by decide) rfl (fun ls hl => ?_)
            refine lv_iinc (v := (v4 + 1)) (lv' := [(4, .int (v4 + 1)), (3, .int (v3 ||| ((1 : Int32) <<< (v4 &&& 31)))), (0, .ref q1), (1, .int v1), (2, .int v2)]) hx hb dX1_moved_44 hl (k := 4) rfl rfl (by decide) rfl (fun ls hl => ?_)
            refine lv_goto (tgt := 10) hx hb dX1_moved_47 (by decide) ?_
            exact ih_10 v2 (v3 ||| ((1 : Int32) <<< (v4 &&& 31))) (v4 + 1) _ _ _ hP hD hS (lv_sub hl [2, 3, 4, 1, 0] rfl) hs
  exact hL_10 fu (m_J6_bitCount_0f7a4 v1) (0 : Int32) (0 : Int32) _ _ _ hP hD hS (lv_sub hl [3, 4, 2, 1, 0] rfl) hs
abbrev rm_X1_speakers : Room := { frames := 2, cells := 0, slots := 0, locals := 44 }
theorem hd_X1_speakers : yX1_speakers.cls ≠ "java/lang/invoke/MethodHandle" ∧ yX1_speakers.cls ≠ "java/lang/invoke/VarHandle" ∧ (parseMethodDescriptor yX1_speakers.desc).map (fun d => d.parameters.length) = some 2 := by decide +kernel
set_option maxHeartbeats 4000000 in
set_option maxRecDepth 100000 in
theorem k_X1_speakers (l : Launch) (dC : Nat → ClassId) (dI : Nat → Nat → Nat) (cI cZ cS : ClassId) (q1 q1ne q3 : Nat) (sz : Nat) (si : Int32) (ft : Int32) (ne : Ar) (v1 : Int32) (v2 : Int32) (r0 : Int32) (hs : m_X1_speakers v1 v2 ne = some r0) : Met l yX1_speakers (.code yX1_speakers cX1_speakers 6 (some .int) :: kG) rm_X1_speakers (va_Pc [.ref q1, .int v1, .int v2] (kW (dC, dI) cI cZ cS [(q1, .inr (1, [.ref q3, .ref q1ne, .int si, .int ft])), (q1ne, .inl (cI, 8, .inl ne))] sz)) (kQi (dC, dI) [(q1, .inr (1, [.ref q3, .ref q1ne, .int si, .int ft])), (q1ne, .inl (cI, 8, .inl ne))] [(q1, .inr (1, [.ref q3, .ref q1ne, .int si, .int ft])), (q1ne, .inl (cI, 8, .inl ne))] sz r0) 0 0 (va_A [(q1, .inr (1, [.ref q3, .ref q1ne, .int si, .int ft])), (q1ne, .inl (cI, 8, .inl ne))] sz) := by
  refine kMi (own := RX1) (ty := .int) rfl (by decide) rfl ?_ (Nat.le_of_ble_eq_true rfl)
  intro p e s m args below meth c Q A CF hK hN hA hP hD hret ls hl
  have hS : va_S A s.heap s.heap [] := va_S.rf
  obtain ⟨hx, hb, hml, hown, hts⟩ := id CF
  have hl : lv_has ls 6 [(0, .ref q1), (1, .int v1), (2, .int v2)] := hl
  unfold m_X1_speakers at hs
  refine lv_iload_n hx hb dX1_speakers_0 rfl (lv_at hl 1 rfl) ?_
  refine lv_istore_n (lv' := [(3, .int v1), (0, .ref q1), (1, .int v1), (2, .int v2)]) hx hb dX1_speakers_1 rfl hl (by decide) rfl (fun ls hl => ?_)
  refine lv_iconst (v := 0) hx hb dX1_speakers_2 (by decide) ?_
  refine lv_istore (lv' := [(4, .int (0 : Int32)), (3, .int v1), (0, .ref q1), (1, .int v1), (2, .int v2)]) hx hb dX1_speakers_3 hl (by decide) rfl (fun ls hl => ?_)
  have hL_5 : ∀ (n : Nat) (v3 : Int32) (v4 : Int32) (H : Heap) (locs : List Loc) (ls : Array Slot), va_P (dC, dI) vwCl [(q1, .inr (1, [.ref q3, .ref q1ne, .int si, .int ft])), (q1ne, .inl (cI, 8, .inl ne))] H → va_D A [(q1, .inr (1, [.ref q3, .ref q1ne, .int si, .int ft])), (q1ne, .inl (cI, 8, .inl ne))] → va_S A s.heap H locs → lv_has ls 6 [(0, .ref q1), (2, .int v2), (3, .int v3), (4, .int v4)] → L_X1_speakers_5 v2 ne n v3 v4 = some r0 → W p l e rm_X1_speakers s m args below meth c H locs 0 0 Q (F0 m 5 ls []) := by
    intro n
    induction n with
    | zero =>
      intro v3 v4 H locs ls hP hD hS hl hs
      replace hs : (none : Option (Int32)) = some r0 := hs
      cases hs
    | succ n_5 ih_5 =>
      intro v3 v4 H locs ls hP hD hS hl hs
      replace hs : b_X1_speakers_5  (L_X1_speakers_5 v2 ne n_5) v2 ne v3 v4 = some r0 := hs
      unfold b_X1_speakers_5 at hs
      refine lv_iload hx hb dX1_speakers_5 (lv_at hl 3 rfl) ?_
      refine lv_bipush (v := 8) hx hb dX1_speakers_7 (by decide) ?_
      refine lv_icmp_ge (tgt := 42) hx hb dX1_speakers_9 (by decide) (fun c_1 => ?_) (fun c_1 => ?_)
      · replace hs := if_p c_1 hs
        refine lv_iload_n hx hb dX1_speakers_42 rfl (lv_at hl 2 rfl) ?_
        cases hs
        exact hret _ _ _ _ hP hD hS (vp_nar_int _) dX1_speakers_43
      · replace hs := if_n c_1 hs
        refine lv_iload_n hx hb dX1_speakers_12 rfl (lv_at hl 2 rfl) ?_
        refine lv_aload_n hx hb dX1_speakers_13 rfl (lv_at hl 0 rfl) ?_
        refine lv_iload_n hx hb dX1_speakers_14 rfl (lv_at hl 2 rfl) ?_
        obtain ⟨r_2, hc_3, hs⟩ := ob1_e hs
        refine kci (wr := []) (ws' := [(q1, .inr (1, [.ref q3, .ref q1ne, .int si, .int ft])), (q1ne, .inl (cI, 8, .inl ne))]) (va_runV (As := [.int v3]) (rest := [.int v3]) ⟨hx, hb, hml, hown, hts⟩ (k_X1_moved l dC dI cI cZ cS q1 q1ne q3 H.size si ft ne v3 r_2 hc_3) (cwV 1 hts (kGood (kgV mG_61 mG_62 mG_63 mG_64 mG_56)) rfl rfl rfl ⟨rfl, hd_X1_moved⟩ ⟨Nat.le_of_ble_eq_true rfl, Nat.le_of_ble_eq_true rfl⟩) (kpV hK hN (hP.sub (ws' := [(q1, .inr (1, [.ref q3, .ref q1ne, .int si, .int ft])), (q1ne, .inl (cI, 8, .inl ne))]) [0, 1] rfl) (hD.sub (ws' := [(q1, .inr (1, [.ref q3, .ref q1ne, .int si, .int ft])), (q1ne, .inl (cI, 8, .inl ne))]) [0, 1] rfl rfl) rfl rfl rfl) rfl rfl hl.1 rfl (lv_room (Nat.le_of_ble_eq_true rfl)) dX1_speakers_15 ⟨Nat.zero_le _, Nat.zero_le _⟩) hP hD hS hA [0, 1] [] [0, 1] rfl rfl rfl (by decide) rfl rfl (fun H locs hP hD hS => ?_)
        refine lv_iload_n hx hb dX1_speakers_18 rfl (lv_at hl 1 rfl) ?_
        refine lv_iconst (v := -1) hx hb dX1_speakers_19 (by decide) ?_
        refine lv_ixor hx hb dX1_speakers_20 ?_
        refine lv_iand hx hb dX1_speakers_21 ?_
        refine lv_ior hx hb dX1_speakers_22 ?_
        refine lv_istore (lv' := [(5, .int (v3 ||| (r_2 &&& (v2 ^^^ (-1 : Int32))))), (0, .ref q1), (2, .int v2), (3, .int v3), (4, .int v4)]) hx hb dX1_speakers_23 hl (by decide) rfl (fun ls hl => ?_)
        refine lv_iload hx hb dX1_speakers_25 (lv_at hl 0 rfl) ?_
        refine lv_iload_n hx hb dX1_speakers_27 rfl (lv_at hl 3 rfl) ?_
        refine lv_icmp_ne (tgt := 33) hx hb dX1_speakers_28 (by decide) (fun c_4 => ?_) (fun c_4 => ?_)
        · replace hs := if_n c_4 hs
          refine lv_iload hx hb dX1_speakers_33 (lv_at hl 0 rfl) ?_
          refine lv_istore_n (lv' := [(3, .int (v3 ||| (r_2 &&& (v2 ^^^ (-1 : Int32))))), (5, .int (v3 ||| (r_2 &&& (v2 ^^^ (-1 : Int32))))), (0, .ref q1), (2, .int v2), (4, .int v4)]) hx hb dX1_speakers_35 rfl hl (by decide) rfl (fun ls hl => ?_)
          refine lv_iinc (v := (v4 + 1)) (lv' := [(4, .int (v4 + 1)), (3, .int (v3 ||| (r_2 &&& (v2 ^^^ (-1 : Int32))))), (5, .int (v3 ||| (r_2 &&& (v2 ^^^ (-1 : Int32))))), (0, .ref q1), (2, .int v2)]) hx hb dX1_speakers_36 hl (k := 4) rfl rfl (by decide) rfl (fun ls hl => ?_)
          refine lv_goto (tgt := 5) hx hb dX1_speakers_39 (by decide) ?_
          exact ih_5 (v3 ||| (r_2 &&& (v2 ^^^ (-1 : Int32)))) (v4 + 1) _ _ _ hP hD hS (lv_sub hl [3, 4, 1, 0] rfl) hs
        · replace hs := if_p c_4 hs
          refine lv_iload_n hx hb dX1_speakers_31 rfl (lv_at hl 3 rfl) ?_
          cases hs
          exact hret _ _ _ _ hP hD hS (vp_nar_int _) dX1_speakers_32
  exact hL_5 fu v1 (0 : Int32) _ _ _ hP hD hS (lv_sub hl [2, 4, 1, 0] rfl) hs
abbrev rm_X1_fewestSilent : Room := { frames := 3, cells := 0, slots := 0, locals := 69 }
theorem hd_X1_fewestSilent : yX1_fewestSilent.cls ≠ "java/lang/invoke/MethodHandle" ∧ yX1_fewestSilent.cls ≠ "java/lang/invoke/VarHandle" ∧ (parseMethodDescriptor yX1_fewestSilent.desc).map (fun d => d.parameters.length) = some 2 := by decide +kernel
set_option maxHeartbeats 4000000 in
set_option maxRecDepth 100000 in
theorem k_X1_fewestSilent (l : Launch) (dC : Nat → ClassId) (dI : Nat → Nat → Nat) (cI cZ cS : ClassId) (q1 q1ne q3 : Nat) (sz : Nat) (si : Int32) (ft : Int32) (ne : Ar) (v1 : Int32) (v2 : Int32) (r0 : Int32) (hs : m_X1_fewestSilent v1 v2 ne = some r0) : Met l yX1_fewestSilent (.code yX1_fewestSilent cX1_fewestSilent 7 (some .int) :: kG) rm_X1_fewestSilent (va_Pc [.ref q1, .int v1, .int v2] (kW (dC, dI) cI cZ cS [(q1, .inr (1, [.ref q3, .ref q1ne, .int si, .int ft])), (q1ne, .inl (cI, 8, .inl ne))] sz)) (kQi (dC, dI) [(q1, .inr (1, [.ref q3, .ref q1ne, .int si, .int ft])), (q1ne, .inl (cI, 8, .inl ne))] [(q1, .inr (1, [.ref q3, .ref q1ne, .int si, .int ft])), (q1ne, .inl (cI, 8, .inl ne))] sz r0) 0 0 (va_A [(q1, .inr (1, [.ref q3, .ref q1ne, .int si, .int ft])), (q1ne, .inl (cI, 8, .inl ne))] sz) := by
  refine kMi (own := RX1) (ty := .int) rfl (by decide) rfl ?_ (Nat.le_of_ble_eq_true rfl)
  intro p e s m args below meth c Q A CF hK hN hA hP hD hret ls hl
  have hS : va_S A s.heap s.heap [] := va_S.rf
  obtain ⟨hx, hb, hml, hown, hts⟩ := id CF
  have hl : lv_has ls 7 [(0, .ref q1), (1, .int v1), (2, .int v2)] := hl
  unfold m_X1_fewestSilent at hs
  refine lv_bipush (v := -6) hx hb dX1_fewestSilent_0 (by decide) ?_
  refine lv_istore_n (lv' := [(3, .int (-6 : Int32)), (0, .ref q1), (1, .int v1), (2, .int v2)]) hx hb dX1_fewestSilent_2 rfl hl (by decide) rfl (fun ls hl => ?_)
  refine lv_bipush (v := 9) hx hb dX1_fewestSilent_3 (by decide) ?_
  refine lv_istore (lv' := [(4, .int (9 : Int32)), (3, .int (-6 : Int32)), (0, .ref q1), (1, .int v1), (2, .int v2)]) hx hb dX1_fewestSilent_5 hl (by decide) rfl (fun ls hl => ?_)
  refine lv_iconst (v := 0) hx hb dX1_fewestSilent_7 (by decide) ?_
  refine lv_istore (lv' := [(5, .int (0 : Int32)), (4, .int (9 : Int32)), (3, .int (-6 : Int32)), (0, .ref q1), (1, .int v1), (2, .int v2)]) hx hb dX1_fewestSilent_8 hl (by decide) rfl (fun ls hl => ?_)
  have hL_10 : ∀ (n : Nat) (v3 : Int32) (v4 : Int32) (v5 : Int32) (H : Heap) (locs : List Loc) (ls : Array Slot), va_P (dC, dI) vwCl [(q1, .inr (1, [.ref q3, .ref q1ne, .int si, .int ft])), (q1ne, .inl (cI, 8, .inl ne))] H → va_D A [(q1, .inr (1, [.ref q3, .ref q1ne, .int si, .int ft])), (q1ne, .inl (cI, 8, .inl ne))] → va_S A s.heap H locs → lv_has ls 7 [(0, .ref q1), (1, .int v1), (2, .int v2), (3, .int v3), (4, .int v4), (5, .int v5)] → L_X1_fewestSilent_10 v1 v2 ne n v3 v4 v5 = some r0 → W p l e rm_X1_fewestSilent s m args below meth c H locs 0 0 Q (F0 m 10 ls []) := by
    intro n
    induction n with
    | zero =>
      intro v3 v4 v5 H locs ls hP hD hS hl hs
      replace hs : (none : Option (Int32)) = some r0 := hs
      cases hs
    | succ n_10 ih_10 =>
      intro v3 v4 v5 H locs ls hP hD hS hl hs
      replace hs : b_X1_fewestSilent_10  (L_X1_fewestSilent_10 v1 v2 ne n_10) v1 v2 ne v3 v4 v5 = some r0 := hs
      unfold b_X1_fewestSilent_10 at hs
      refine lv_iload hx hb dX1_fewestSilent_10 (lv_at hl 5 rfl) ?_
      refine lv_sipush (v := 255) hx hb dX1_fewestSilent_12 (by decide) ?_
      refine lv_icmp_gt (tgt := 66) hx hb dX1_fewestSilent_15 (by decide) (fun c_1 => ?_) (fun c_1 => ?_)
      · replace hs := if_p c_1 hs
        refine lv_iload_n hx hb dX1_fewestSilent_66 rfl (lv_at hl 3 rfl) ?_
        cases hs
        exact hret _ _ _ _ hP hD hS (vp_nar_int _) dX1_fewestSilent_67
      · replace hs := if_n c_1 hs
        refine lv_iload hx hb dX1_fewestSilent_18 (lv_at hl 5 rfl) ?_
        refine kpi (va_runS (As := [.int v5]) (rest := []) ⟨hx, hb, hml, hown, hts⟩ (k_J6_bitCount_0f7a4 l v5 _ rfl) (va_cwS 1 hts (kGood (kgS mG_57 mG_58 mG_59 mG_52)) rfl rfl rfl hd_J6_bitCount_0f7a4 ⟨Nat.le_of_ble_eq_true rfl, Nat.le_of_ble_eq_true rfl⟩) preEq rfl rfl hl.1 rfl (lv_room (Nat.le_of_ble_eq_true rfl)) dX1_fewestSilent_20 ⟨Nat.zero_le _, Nat.zero_le _⟩) ?_
        refine lv_istore (lv' := [(6, .int (m_J6_bitCount_0f7a4 v5)), (0, .ref q1), (1, .int v1), (2, .int v2), (3, .int v3), (4, .int v4), (5, .int v5)]) hx hb dX1_fewestSilent_23 hl (by decide) rfl (fun ls hl => ?_)
        refine lv_iload hx hb dX1_fewestSilent_25 (lv_at hl 6 rfl) ?_
        refine lv_iload_n hx hb dX1_fewestSilent_27 rfl (lv_at hl 2 rfl) ?_
        refine lv_iand hx hb dX1_fewestSilent_28 ?_
        refine lv_if_ne (tgt := 60) hx hb dX1_fewestSilent_29 (by decide) (fun c_2 => ?_) (fun c_2 => ?_)
        · replace hs := if_n c_2 hs
          refine lv_iinc (v := (v5 + 1)) (lv' := [(5, .int (v5 + 1)), (6, .int (m_J6_bitCount_0f7a4 v5)), (0, .ref q1), (1, .int v1), (2, .int v2), (3, .int v3), (4, .int v4)]) hx hb dX1_fewestSilent_60 hl (k := 6) rfl rfl (by decide) rfl (fun ls hl => ?_)
          refine lv_goto (tgt := 10) hx hb dX1_fewestSilent_63 (by decide) ?_
          exact ih_10 v3 v4 (v5 + 1) _ _ _ hP hD hS (lv_sub hl [2, 3, 4, 5, 6, 0] rfl) hs
        · replace hs := if_p c_2 hs
          refine lv_iload hx hb dX1_fewestSilent_32 (lv_at hl 0 rfl) ?_
          refine lv_iload hx hb dX1_fewestSilent_34 (lv_at hl 5 rfl) ?_
          refine lv_icmp_ge (tgt := 60) hx hb dX1_fewestSilent_36 (by decide) (fun c_3 => ?_) (fun c_3 => ?_)
          · replace hs := if_p c_3 hs
            refine lv_iinc (v := (v5 + 1)) (lv' := [(5, .int (v5 + 1)), (6, .int (m_J6_bitCount_0f7a4 v5)), (0, .ref q1), (1, .int v1), (2, .int v2), (3, .int v3), (4, .int v4)]) hx hb dX1_fewestSilent_60 hl (k := 6) rfl rfl (by decide) rfl (fun ls hl => ?_)
            refine lv_goto (tgt := 10) hx hb dX1_fewestSilent_63 (by decide) ?_
            exact ih_10 v3 v4 (v5 + 1) _ _ _ hP hD hS (lv_sub hl [2, 3, 4, 5, 6, 0] rfl) hs
          · replace hs := if_n c_3 hs
            refine lv_aload_n hx hb dX1_fewestSilent_39 rfl (lv_at hl 1 rfl) ?_
            refine lv_iload_n hx hb dX1_fewestSilent_40 rfl (lv_at hl 2 rfl) ?_
            refine lv_iload hx hb dX1_fewestSilent_41 (lv_at hl 6 rfl) ?_
            obtain ⟨r_4, hc_5, hs⟩ := ob1_e hs
            refine kci (wr := []) (ws' := [(q1, .inr (1, [.ref q3, .ref q1ne, .int si, .int ft])), (q1ne, .inl (cI, 8, .inl ne))]) (va_runV (As := [.int v1, .int v5]) (rest := []) ⟨hx, hb, hml, hown, hts⟩ (k_X1_speakers l dC dI cI cZ cS q1 q1ne q3 H.size si ft ne v1 v5 r_4 hc_5) (cwV 2 hts (kGood (kgV mG_66 mG_67 mG_68 mG_64 mG_60)) rfl rfl rfl ⟨rfl, hd_X1_speakers⟩ ⟨Nat.le_of_ble_eq_true rfl, Nat.le_of_ble_eq_true rfl⟩) (kpV hK hN (hP.sub (ws' := [(q1, .inr (1, [.ref q3, .ref q1ne, .int si, .int ft])), (q1ne, .inl (cI, 8, .inl ne))]) [0, 1] rfl) (hD.sub (ws' := [(q1, .inr (1, [.ref q3, .ref q1ne, .int si, .int ft])), (q1ne, .inl (cI, 8, .inl ne))]) [0, 1] rfl rfl) rfl rfl rfl) rfl rfl hl.1 rfl (lv_room (Nat.le_of_ble_eq_true rfl)) dX1_fewestSilent_43 ⟨Nat.zero_le _, Nat.zero_le _⟩) hP hD hS hA [0, 1] [] [0, 1] rfl rfl rfl (by decide) rfl rfl (fun H locs hP hD hS => ?_)
            refine kpi (va_runS (As := [.int r_4]) (rest := []) ⟨hx, hb, hml, hown, hts⟩ (k_J6_bitCount_0f7a4 l r_4 _ rfl) (va_cwS 1 hts (kGood (kgS mG_57 mG_58 mG_59 mG_52)) rfl rfl rfl hd_J6_bitCount_0f7a4 ⟨Nat.le_of_ble_eq_true rfl, Nat.le_of_ble_eq_true rfl⟩) preEq rfl rfl hl.1 rfl (lv_room (Nat.le_of_ble_eq_true rfl)) dX1_fewestSilent_46 ⟨Nat.zero_le _, Nat.zero_le _⟩) ?_
            refine lv_iload_n hx hb dX1_fewestSilent_49 rfl (lv_at hl 3 rfl) ?_
            refine lv_icmp_gt (tgt := 60) hx hb dX1_fewestSilent_50 (by decide) (fun c_6 => ?_) (fun c_6 => ?_)
            · replace hs := if_p c_6 hs
              refine lv_iinc (v := (v5 + 1)) (lv' := [(5, .int (v5 + 1)), (6, .int (m_J6_bitCount_0f7a4 v5)), (0, .ref q1), (1, .int v1), (2, .int v2), (3, .int v3), (4, .int v4)]) hx hb dX1_fewestSilent_60 hl (k := 6) rfl rfl (by decide) rfl (fun ls hl => ?_)
              refine lv_goto (tgt := 10) hx hb dX1_fewestSilent_63 (by decide) ?_
              exact ih_10 v3 v4 (v5 + 1) _ _ _ hP hD hS (lv_sub hl [2, 3, 4, 5, 6, 0] rfl) hs
            · replace hs := if_n c_6 hs
              refine lv_iload hx hb dX1_fewestSilent_53 (lv_at hl 6 rfl) ?_
              refine lv_istore_n (lv' := [(3, .int v5), (6, .int (m_J6_bitCount_0f7a4 v5)), (0, .ref q1), (1, .int v1), (2, .int v2), (4, .int v4), (5, .int v5)]) hx hb dX1_fewestSilent_55 rfl hl (by decide) rfl (fun ls hl => ?_)
              refine lv_iload hx hb dX1_fewestSilent_56 (lv_at hl 1 rfl) ?_
              refine lv_istore (lv' := [(4, .int (m_J6_bitCount_0f7a4 v5)), (3, .int v5), (6, .int (m_J6_bitCount_0f7a4 v5)), (0, .ref q1), (1, .int v1), (2, .int v2), (5, .int v5)]) hx hb dX1_fewestSilent_58 hl (by decide) rfl (fun ls hl => ?_)
              refine lv_iinc (v := (v5 + 1)) (lv' := [(5, .int (v5 + 1)), (4, .int (m_J6_bitCount_0f7a4 v5)), (3, .int v5), (6, .int (m_J6_bitCount_0f7a4 v5)), (0, .ref q1), (1, .int v1), (2, .int v2)]) hx hb dX1_fewestSilent_60 hl (k := 6) rfl rfl (by decide) rfl (fun ls hl => ?_)
              refine lv_goto (tgt := 10) hx hb dX1_fewestSilent_63 (by decide) ?_
              exact ih_10 v5 (m_J6_bitCount_0f7a4 v5) (v5 + 1) _ _ _ hP hD hS (lv_sub hl [4, 5, 6, 2, 1, 0] rfl) hs
  exact hL_10 fu (-6 : Int32) (9 : Int32) (0 : Int32) _ _ _ hP hD hS (lv_sub hl [3, 4, 5, 2, 1, 0] rfl) hs
abbrev rm_X2_noteFall : Room := { frames := 1, cells := 0, slots := 0, locals := 21 }
theorem hd_X2_noteFall : yX2_noteFall.cls ≠ "java/lang/invoke/MethodHandle" ∧ yX2_noteFall.cls ≠ "java/lang/invoke/VarHandle" ∧ (parseMethodDescriptor yX2_noteFall.desc).map (fun d => d.parameters.length) = some 1 := by decide +kernel
set_option maxHeartbeats 4000000 in
set_option maxRecDepth 100000 in
theorem k_X2_noteFall (l : Launch) (dC : Nat → ClassId) (dI : Nat → Nat → Nat) (cI cZ cS : ClassId) (q2 q3 : Nat) (sz : Nat) (ac : Int32) (wy : Int32) (fa : Int32) (fp : Int32) (v1 : Int32) (fa_o : Int32) (fp_o : Int32) (hs : m_X2_noteFall v1 ac fa fp = some (fa_o, fp_o)) : Met l yX2_noteFall (.code yX2_noteFall cX2_noteFall 2 none :: kG) rm_X2_noteFall (va_Pc [.ref q2, .int v1] (kW (dC, dI) cI cZ cS [(q2, .inr (2, [.ref q3, .int ac, .int wy, .int fa, .int fp]))] sz)) (kQv (dC, dI) [(q2, .inr (2, [.ref q3, .int ac, .int wy, .int fa, .int fp]))] [(q2, .inr (2, [.ref q3, .int ac, .int wy, .int fa_o, .int fp_o]))] sz) 0 0 (va_A [(q2, .inr (2, [.ref q3, .int ac, .int wy, .int fa, .int fp]))] sz) := by
  refine kMv (own := RX2) (by decide) rfl ?_ (Nat.le_of_ble_eq_true rfl)
  intro p e s m args below meth c Q A CF hK hN hA hP hD hret ls hl
  have hS : va_S A s.heap s.heap [] := va_S.rf
  obtain ⟨hx, hb, hml, hown, hts⟩ := id CF
  have hl : lv_has ls 2 [(0, .ref q2), (1, .int v1)] := hl
  unfold m_X2_noteFall at hs
  refine lv_iload_n hx hb dX2_noteFall_0 rfl (lv_at hl 1 rfl) ?_
  refine lv_if_eq (tgt := 29) hx hb dX2_noteFall_1 (by decide) (fun c_1 => ?_) (fun c_1 => ?_)
  · replace hs := if_p c_1 hs
    cases hs
    exact hret _ _ _ _ hP hD hS dX2_noteFall_29
  · replace hs := if_n c_1 hs
    refine lv_aload_n hx hb dX2_noteFall_4 rfl (lv_at hl 0 rfl) ?_
    refine va_get (D := (dC, dI)) (ci := 2) (v := .int fa) (C := RX2) (T := TX2) (N := 5) hx hb hts (fun w h => kg1 (iG_2 w h)) hown hK hP 0 rfl rfl 3 (by decide) (hts _ (kg1 mG_112)) (fun _ h9 => h9) rfl dX2_noteFall_5 ?_
    refine lv_bipush (v := -6) hx hb dX2_noteFall_8 (by decide) ?_
    refine lv_icmp_ne (tgt := 29) hx hb dX2_noteFall_10 (by decide) (fun c_2 => ?_) (fun c_2 => ?_)
    · replace hs := if_n c_2 hs
      cases hs
      exact hret _ _ _ _ hP hD hS dX2_noteFall_29
    · replace hs := if_p c_2 hs
      refine lv_aload_n hx hb dX2_noteFall_13 rfl (lv_at hl 0 rfl) ?_
      refine lv_aload_n hx hb dX2_noteFall_14 rfl (lv_at hl 0 rfl) ?_
      refine va_get (D := (dC, dI)) (ci := 2) (v := .int ac) (C := RX2) (T := TX2) (N := 5) hx hb hts (fun w h => kg1 (iG_2 w h)) hown hK hP 0 rfl rfl 1 (by decide) (hts _ (kg1 mG_113)) (fun _ h9 => h9) rfl dX2_noteFall_15 ?_
      refine va_put (D := (dC, dI)) (ci := 2) (v := .int ac) (ty := .int) (C := RX2) (T := TX2) (N := 5) hx hb hts (fun w h => kg1 (iG_2 w h)) tyX2 tyX2_ok nmX2 hown hK hP hD hS 0 rfl rfl 3 (by decide) (hts _ (kg1 mG_112)) (fun _ h9 => h9) rfl rfl rfl rfl (Nat.le_of_ble_eq_true rfl) dX2_noteFall_18 (fun H locs hP hD hS => ?_)
      have hP : va_P (dC, dI) vwCl [(q2, .inr (2, [.ref q3, .int ac, .int wy, .int ac, .int fp]))] H := hP
      have hD : va_D A [(q2, .inr (2, [.ref q3, .int ac, .int wy, .int ac, .int fp]))] := hD
      refine lv_aload_n hx hb dX2_noteFall_21 rfl (lv_at hl 0 rfl) ?_
      refine lv_iload_n hx hb dX2_noteFall_22 rfl (lv_at hl 1 rfl) ?_
      obtain ⟨r_3, hc_4, hs⟩ := ob1_e hs
      refine kpi (va_runS (As := [.int v1]) (rest := [.ref q2]) ⟨hx, hb, hml, hown, hts⟩ (k_X2_leastOf l v1 r_3 hc_4) (va_cwS 1 hts (kGood (kgS mG_115 mG_116 mG_117 mG_110)) rfl rfl rfl hd_X2_leastOf ⟨Nat.le_of_ble_eq_true rfl, Nat.le_of_ble_eq_true rfl⟩) preEq rfl rfl hl.1 rfl (lv_room (Nat.le_of_ble_eq_true rfl)) dX2_noteFall_23 ⟨Nat.zero_le _, Nat.zero_le _⟩) ?_
      refine va_put (D := (dC, dI)) (ci := 2) (v := .int r_3) (ty := .int) (C := RX2) (T := TX2) (N := 5) hx hb hts (fun w h => kg1 (iG_2 w h)) tyX2 tyX2_ok nmX2 hown hK hP hD hS 0 rfl rfl 4 (by decide) (hts _ (kg1 mG_114)) (fun _ h9 => h9) rfl rfl rfl rfl (Nat.le_of_ble_eq_true rfl) dX2_noteFall_26 (fun H locs hP hD hS => ?_)
      have hP : va_P (dC, dI) vwCl [(q2, .inr (2, [.ref q3, .int ac, .int wy, .int ac, .int r_3]))] H := hP
      have hD : va_D A [(q2, .inr (2, [.ref q3, .int ac, .int wy, .int ac, .int r_3]))] := hD
      cases hs
      exact hret _ _ _ _ hP hD hS dX2_noteFall_29
abbrev rm_X2_follow : Room := { frames := 4, cells := 0, slots := 0, locals := 86 }
theorem hd_X2_follow : yX2_follow.cls ≠ "java/lang/invoke/MethodHandle" ∧ yX2_follow.cls ≠ "java/lang/invoke/VarHandle" ∧ (parseMethodDescriptor yX2_follow.desc).map (fun d => d.parameters.length) = some 2 := by decide +kernel
set_option maxHeartbeats 4000000 in
set_option maxRecDepth 100000 in
theorem k_X2_follow (l : Launch) (dC : Nat → ClassId) (dI : Nat → Nat → Nat) (cI cZ cS : ClassId) (q2 q3w q3fiw q3tow q0 q0sg q3 q3fi q3to : Nat) (sz : Nat) (ac : Int32) (wy : Int32) (fa : Int32) (fp : Int32) (thw : Int32) (hew : Int32) (maw : Int32) (row : Int32) (fiw : Ar) (tow : Ar) (ct : Int32) (sg : Ar) (th : Int32) (he : Int32) (ma : Int32) (ro : Int32) (fi : Ar) (to : Ar)  (ac_o : Int32) (wy_o : Int32) (fa_o : Int32) (fp_o : Int32) (thw_o : Int32) (hew_o : Int32) (maw_o : Int32) (row_o : Int32) (fiw_o : Ar) (tow_o : Ar) (hs : m_X2_follow fiw tow ct sg th he ma ro fi to = some (ac_o, wy_o, fa_o, fp_o, thw_o, hew_o, maw_o, row_o, fiw_o, tow_o)) : Met l yX2_follow (.code yX2_follow cX2_follow 6 none :: kG) rm_X2_follow (va_Pc [.ref q2, .ref q0, .ref q3] (kW (dC, dI) cI cZ cS [(q2, .inr (2, [.ref q3w, .int ac, .int wy, .int fa, .int fp])), (q3w, .inr (3, [.ref q3fiw, .ref q3tow, .int thw, .int hew, .int maw, .int row])), (q3fiw, .inl (cI, 12, .inl fiw)), (q3tow, .inl (cI, 12, .inl tow)), (q0, .inr (0, [.ref q0sg, .int ct])), (q0sg, .inl (cI, 60, .inl sg)), (q3, .inr (3, [.ref q3fi, .ref q3to, .int th, .int he, .int ma, .int ro])), (q3fi, .inl (cI, 12, .inl fi)), (q3to, .inl (cI, 12, .inl to))] sz)) (kQv (dC, dI) [(q2, .inr (2, [.ref q3w, .int ac, .int wy, .int fa, .int fp])), (q3w, .inr (3, [.ref q3fiw, .ref q3tow, .int thw, .int hew, .int maw, .int row])), (q3fiw, .inl (cI, 12, .inl fiw)), (q3tow, .inl (cI, 12, .inl tow)), (q0, .inr (0, [.ref q0sg, .int ct])), (q0sg, .inl (cI, 60, .inl sg)), (q3, .inr (3, [.ref q3fi, .ref q3to, .int th, .int he, .int ma, .int ro])), (q3fi, .inl (cI, 12, .inl fi)), (q3to, .inl (cI, 12, .inl to))] [(q2, .inr (2, [.ref q3w, .int ac_o, .int wy_o, .int fa_o, .int fp_o])), (q3w, .inr (3, [.ref q3fiw, .ref q3tow, .int thw_o, .int hew_o, .int maw_o, .int row_o])), (q3fiw, .inl (cI, 12, .inl fiw_o)), (q3tow, .inl (cI, 12, .inl tow_o)), (q0, .inr (0, [.ref q0sg, .int ct])), (q0sg, .inl (cI, 60, .inl sg)), (q3, .inr (3, [.ref q3fi, .ref q3to, .int th, .int he, .int ma, .int ro])), (q3fi, .inl (cI, 12, .inl fi)), (q3to, .inl (cI, 12, .inl to))] sz) 0 0 (va_A [(q2, .inr (2, [.ref q3w, .int ac, .int wy, .int fa, .int fp])), (q3w, .inr (3, [.ref q3fiw, .ref q3tow, .int thw, .int hew, .int maw, .int row])), (q3fiw, .inl (cI, 12, .inl fiw)), (q3tow, .inl (cI, 12, .inl tow)), (q0, .inr (0, [.ref q0sg, .int ct])), (q0sg, .inl (cI, 60, .inl sg)), (q3, .inr (3, [.ref q3fi, .ref q3to, .int th, .int he, .int ma, .int ro])), (q3fi, .inl (cI, 12, .inl fi)), (q3to, .inl (cI, 12, .inl to))] sz) := by
  refine kMv (own := RX2) (by decide) rfl ?_ (Nat.le_of_ble_eq_true rfl)
  intro p e s m args below meth c Q A CF hK hN hA hP hD hret ls hl
  have hS : va_S A s.heap s.heap [] := va_S.rf
  obtain ⟨hx, hb, hml, hown, hts⟩ := id CF
  have hl : lv_has ls 6 [(0, .ref q2), (1, .ref q0), (2, .ref q3)] := hl
  unfold m_X2_follow at hs
  refine lv_aload_n hx hb dX2_follow_0 rfl (lv_at hl 0 rfl) ?_
  refine va_get (D := (dC, dI)) (ci := 2) (v := .ref q3w) (C := RX2) (T := TX2) (N := 5) hx hb hts (fun w h => kg1 (iG_2 w h)) hown hK hP 0 rfl rfl 0 (by decide) (hts _ (kg1 mG_72)) (fun _ h9 => h9) rfl dX2_follow_1 ?_
  refine lv_aload_n hx hb dX2_follow_4 rfl (lv_at hl 2 rfl) ?_
  obtain ⟨thw_1, hew_2, maw_3, row_4, fiw_5, tow_6, hc_7, hs⟩ := ob6_e hs
  refine kcv (wr := [(q2, .inr (2, [.ref q3w, .int ac, .int wy, .int fa, .int fp])), (q0, .inr (0, [.ref q0sg, .int ct])), (q0sg, .inl (cI, 60, .inl sg))]) (ws' := [(q2, .inr (2, [.ref q3w, .int ac, .int wy, .int fa, .int fp])), (q3w, .inr (3, [.ref q3fiw, .ref q3tow, .int thw_1, .int hew_2, .int maw_3, .int row_4])), (q3fiw, .inl (cI, 12, .inl fiw_5)), (q3tow, .inl (cI, 12, .inl tow_6)), (q0, .inr (0, [.ref q0sg, .int ct])), (q0sg, .inl (cI, 60, .inl sg)), (q3, .inr (3, [.ref q3fi, .ref q3to, .int th, .int he, .int ma, .int ro])), (q3fi, .inl (cI, 12, .inl fi)), (q3to, .inl (cI, 12, .inl to))]) (va_runV (As := [.ref q3]) (rest := []) ⟨hx, hb, hml, hown, hts⟩ (k_X3_copyFrom l dC dI cI cZ cS q3w q3fiw q3tow q3 q3fi q3to s.heap.size thw hew maw row fiw tow th he ma ro fi to thw_1 hew_2 maw_3 row_4 fiw_5 tow_6 hc_7) (cwV 1 hts (kGood (kgV mG_121 mG_50 mG_51 mG_30 mG_37)) rfl rfl rfl ⟨rfl, hd_X3_copyFrom⟩ ⟨Nat.le_of_ble_eq_true rfl, Nat.le_of_ble_eq_true rfl⟩) (kpV hK hN (hP.sub (ws' := [(q3w, .inr (3, [.ref q3fiw, .ref q3tow, .int thw, .int hew, .int maw, .int row])), (q3fiw, .inl (cI, 12, .inl fiw)), (q3tow, .inl (cI, 12, .inl tow)), (q3, .inr (3, [.ref q3fi, .ref q3to, .int th, .int he, .int ma, .int ro])), (q3fi, .inl (cI, 12, .inl fi)), (q3to, .inl (cI, 12, .inl to))]) [1, 2, 3, 6, 7, 8] rfl) (hD.sub (ws' := [(q3w, .inr (3, [.ref q3fiw, .ref q3tow, .int thw, .int hew, .int maw, .int row])), (q3fiw, .inl (cI, 12, .inl fiw)), (q3tow, .inl (cI, 12, .inl tow)), (q3, .inr (3, [.ref q3fi, .ref q3to, .int th, .int he, .int ma, .int ro])), (q3fi, .inl (cI, 12, .inl fi)), (q3to, .inl (cI, 12, .inl to))]) [1, 2, 3, 6, 7, 8] rfl rfl) rfl rfl rfl) rfl rfl hl.1 rfl (lv_room (Nat.le_of_ble_eq_true rfl)) dX2_follow_5 ⟨Nat.zero_le _, Nat.zero_le _⟩) hP hD hS hA [1, 2, 3, 6, 7, 8] [0, 4, 5] [0, 3, 4, 5, 1, 2, 6, 7, 8] rfl rfl rfl (by decide) rfl rfl (fun H locs hP hD hS => ?_)
  refine lv_aload_n hx hb dX2_follow_8 rfl (lv_at hl 0 rfl) ?_
  refine lv_iconst (v := 0) hx hb dX2_follow_9 (by decide) ?_
  refine va_put (D := (dC, dI)) (ci := 2) (v := .int (0 : Int32)) (ty := .int) (C := RX2) (T := TX2) (N := 5) hx hb hts (fun w h => kg1 (iG_2 w h)) tyX2 tyX2_ok nmX2 hown hK hP hD hS 0 rfl rfl 1 (by decide) (hts _ (kg1 mG_113)) (fun _ h9 => h9) rfl rfl rfl rfl (Nat.le_of_ble_eq_true rfl) dX2_follow_10 (fun H locs hP hD hS => ?_)
  have hP : va_P (dC, dI) vwCl [(q2, .inr (2, [.ref q3w, .int (0 : Int32), .int wy, .int fa, .int fp])), (q3w, .inr (3, [.ref q3fiw, .ref q3tow, .int thw_1, .int hew_2, .int maw_3, .int row_4])), (q3fiw, .inl (cI, 12, .inl fiw_5)), (q3tow, .inl (cI, 12, .inl tow_6)), (q0, .inr (0, [.ref q0sg, .int ct])), (q0sg, .inl (cI, 60, .inl sg)), (q3, .inr (3, [.ref q3fi, .ref q3to, .int th, .int he, .int ma, .int ro])), (q3fi, .inl (cI, 12, .inl fi)), (q3to, .inl (cI, 12, .inl to))] H := hP
  have hD : va_D A [(q2, .inr (2, [.ref q3w, .int (0 : Int32), .int wy, .int fa, .int fp])), (q3w, .inr (3, [.ref q3fiw, .ref q3tow, .int thw_1, .int hew_2, .int maw_3, .int row_4])), (q3fiw, .inl (cI, 12, .inl fiw_5)), (q3tow, .inl (cI, 12, .inl tow_6)), (q0, .inr (0, [.ref q0sg, .int ct])), (q0sg, .inl (cI, 60, .inl sg)), (q3, .inr (3, [.ref q3fi, .ref q3to, .int th, .int he, .int ma, .int ro])), (q3fi, .inl (cI, 12, .inl fi)), (q3to, .inl (cI, 12, .inl to))] := hD
  refine lv_aload_n hx hb dX2_follow_13 rfl (lv_at hl 0 rfl) ?_
  refine lv_iconst (v := 0) hx hb dX2_follow_14 (by decide) ?_
  refine va_put (D := (dC, dI)) (ci := 2) (v := .int (0 : Int32)) (ty := .int) (C := RX2) (T := TX2) (N := 5) hx hb hts (fun w h => kg1 (iG_2 w h)) tyX2 tyX2_ok nmX2 hown hK hP hD hS 0 rfl rfl 2 (by decide) (hts _ (kg1 mG_118)) (fun _ h9 => h9) rfl rfl rfl rfl (Nat.le_of_ble_eq_true rfl) dX2_follow_15 (fun H locs hP hD hS => ?_)
  have hP : va_P (dC, dI) vwCl [(q2, .inr (2, [.ref q3w, .int (0 : Int32), .int (0 : Int32), .int fa, .int fp])), (q3w, .inr (3, [.ref q3fiw, .ref q3tow, .int thw_1, .int hew_2, .int maw_3, .int row_4])), (q3fiw, .inl (cI, 12, .inl fiw_5)), (q3tow, .inl (cI, 12, .inl tow_6)), (q0, .inr (0, [.ref q0sg, .int ct])), (q0sg, .inl (cI, 60, .inl sg)), (q3, .inr (3, [.ref q3fi, .ref q3to, .int th, .int he, .int ma, .int ro])), (q3fi, .inl (cI, 12, .inl fi)), (q3to, .inl (cI, 12, .inl to))] H := hP
  have hD : va_D A [(q2, .inr (2, [.ref q3w, .int (0 : Int32), .int (0 : Int32), .int fa, .int fp])), (q3w, .inr (3, [.ref q3fiw, .ref q3tow, .int thw_1, .int hew_2, .int maw_3, .int row_4])), (q3fiw, .inl (cI, 12, .inl fiw_5)), (q3tow, .inl (cI, 12, .inl tow_6)), (q0, .inr (0, [.ref q0sg, .int ct])), (q0sg, .inl (cI, 60, .inl sg)), (q3, .inr (3, [.ref q3fi, .ref q3to, .int th, .int he, .int ma, .int ro])), (q3fi, .inl (cI, 12, .inl fi)), (q3to, .inl (cI, 12, .inl to))] := hD
  refine lv_aload_n hx hb dX2_follow_18 rfl (lv_at hl 0 rfl) ?_
  refine lv_bipush (v := -6) hx hb dX2_follow_19 (by decide) ?_
  refine va_put (D := (dC, dI)) (ci := 2) (v := .int (-6 : Int32)) (ty := .int) (C := RX2) (T := TX2) (N := 5) hx hb hts (fun w h => kg1 (iG_2 w h)) tyX2 tyX2_ok nmX2 hown hK hP hD hS 0 rfl rfl 3 (by decide) (hts _ (kg1 mG_112)) (fun _ h9 => h9) rfl rfl rfl rfl (Nat.le_of_ble_eq_true rfl) dX2_follow_21 (fun H locs hP hD hS => ?_)
  have hP : va_P (dC, dI) vwCl [(q2, .inr (2, [.ref q3w, .int (0 : Int32), .int (0 : Int32), .int (-6 : Int32), .int fp])), (q3w, .inr (3, [.ref q3fiw, .ref q3tow, .int thw_1, .int hew_2, .int maw_3, .int row_4])), (q3fiw, .inl (cI, 12, .inl fiw_5)), (q3tow, .inl (cI, 12, .inl tow_6)), (q0, .inr (0, [.ref q0sg, .int ct])), (q0sg, .inl (cI, 60, .inl sg)), (q3, .inr (3, [.ref q3fi, .ref q3to, .int th, .int he, .int ma, .int ro])), (q3fi, .inl (cI, 12, .inl fi)), (q3to, .inl (cI, 12, .inl to))] H := hP
  have hD : va_D A [(q2, .inr (2, [.ref q3w, .int (0 : Int32), .int (0 : Int32), .int (-6 : Int32), .int fp])), (q3w, .inr (3, [.ref q3fiw, .ref q3tow, .int thw_1, .int hew_2, .int maw_3, .int row_4])), (q3fiw, .inl (cI, 12, .inl fiw_5)), (q3tow, .inl (cI, 12, .inl tow_6)), (q0, .inr (0, [.ref q0sg, .int ct])), (q0sg, .inl (cI, 60, .inl sg)), (q3, .inr (3, [.ref q3fi, .ref q3to, .int th, .int he, .int ma, .int ro])), (q3fi, .inl (cI, 12, .inl fi)), (q3to, .inl (cI, 12, .inl to))] := hD
  refine lv_aload_n hx hb dX2_follow_24 rfl (lv_at hl 0 rfl) ?_
  refine lv_bipush (v := -6) hx hb dX2_follow_25 (by decide) ?_
  refine va_put (D := (dC, dI)) (ci := 2) (v := .int (-6 : Int32)) (ty := .int) (C := RX2) (T := TX2) (N := 5) hx hb hts (fun w h => kg1 (iG_2 w h)) tyX2 tyX2_ok nmX2 hown hK hP hD hS 0 rfl rfl 4 (by decide) (hts _ (kg1 mG_114)) (fun _ h9 => h9) rfl rfl rfl rfl (Nat.le_of_ble_eq_true rfl) dX2_follow_27 (fun H locs hP hD hS => ?_)
  have hP : va_P (dC, dI) vwCl [(q2, .inr (2, [.ref q3w, .int (0 : Int32), .int (0 : Int32), .int (-6 : Int32), .int (-6 : Int32)])), (q3w, .inr (3, [.ref q3fiw, .ref q3tow, .int thw_1, .int hew_2, .int maw_3, .int row_4])), (q3fiw, .inl (cI, 12, .inl fiw_5)), (q3tow, .inl (cI, 12, .inl tow_6)), (q0, .inr (0, [.ref q0sg, .int ct])), (q0sg, .inl (cI, 60, .inl sg)), (q3, .inr (3, [.ref q3fi, .ref q3to, .int th, .int he, .int ma, .int ro])), (q3fi, .inl (cI, 12, .inl fi)), (q3to, .inl (cI, 12, .inl to))] H := hP
  have hD : va_D A [(q2, .inr (2, [.ref q3w, .int (0 : Int32), .int (0 : Int32), .int (-6 : Int32), .int (-6 : Int32)])), (q3w, .inr (3, [.ref q3fiw, .ref q3tow, .int thw_1, .int hew_2, .int maw_3, .int row_4])), (q3fiw, .inl (cI, 12, .inl fiw_5)), (q3tow, .inl (cI, 12, .inl tow_6)), (q0, .inr (0, [.ref q0sg, .int ct])), (q0sg, .inl (cI, 60, .inl sg)), (q3, .inr (3, [.ref q3fi, .ref q3to, .int th, .int he, .int ma, .int ro])), (q3fi, .inl (cI, 12, .inl fi)), (q3to, .inl (cI, 12, .inl to))] := hD
  refine lv_iconst (v := 0) hx hb dX2_follow_30 (by decide) ?_
  refine lv_istore_n (lv' := [(3, .int (0 : Int32)), (0, .ref q2), (1, .ref q0), (2, .ref q3)]) hx hb dX2_follow_31 rfl hl (by decide) rfl (fun ls hl => ?_)
  have hL_32 : ∀ (n : Nat) (v3 : Int32) (ac : Int32) (wy : Int32) (fa : Int32) (fp : Int32) (thw : Int32) (hew : Int32) (maw : Int32) (row : Int32) (fiw : Ar) (tow : Ar) (H : Heap) (locs : List Loc) (ls : Array Slot), va_P (dC, dI) vwCl [(q2, .inr (2, [.ref q3w, .int ac, .int wy, .int fa, .int fp])), (q3w, .inr (3, [.ref q3fiw, .ref q3tow, .int thw, .int hew, .int maw, .int row])), (q3fiw, .inl (cI, 12, .inl fiw)), (q3tow, .inl (cI, 12, .inl tow)), (q0, .inr (0, [.ref q0sg, .int ct])), (q0sg, .inl (cI, 60, .inl sg)), (q3, .inr (3, [.ref q3fi, .ref q3to, .int th, .int he, .int ma, .int ro])), (q3fi, .inl (cI, 12, .inl fi)), (q3to, .inl (cI, 12, .inl to))] H → va_D A [(q2, .inr (2, [.ref q3w, .int ac, .int wy, .int fa, .int fp])), (q3w, .inr (3, [.ref q3fiw, .ref q3tow, .int thw, .int hew, .int maw, .int row])), (q3fiw, .inl (cI, 12, .inl fiw)), (q3tow, .inl (cI, 12, .inl tow)), (q0, .inr (0, [.ref q0sg, .int ct])), (q0sg, .inl (cI, 60, .inl sg)), (q3, .inr (3, [.ref q3fi, .ref q3to, .int th, .int he, .int ma, .int ro])), (q3fi, .inl (cI, 12, .inl fi)), (q3to, .inl (cI, 12, .inl to))] → va_S A s.heap H locs → lv_has ls 6 [(0, .ref q2), (1, .ref q0), (2, .ref q3), (3, .int v3)] → L_X2_follow_32 thw maw tow ct sg n v3 ac wy fa fp hew row fiw = some (ac_o, wy_o, fa_o, fp_o, thw_o, hew_o, maw_o, row_o, fiw_o, tow_o) → W p l e rm_X2_follow s m args below meth c H locs 0 0 Q (F0 m 32 ls []) := by
    intro n
    induction n with
    | zero =>
      intro v3 ac wy fa fp thw hew maw row fiw tow H locs ls hP hD hS hl hs
      replace hs : (none : Option (Int32 × Int32 × Int32 × Int32 × Int32 × Int32 × Int32 × Int32 × Ar × Ar)) = some (ac_o, wy_o, fa_o, fp_o, thw_o, hew_o, maw_o, row_o, fiw_o, tow_o) := hs
      cases hs
    | succ n_32 ih_32 =>
      intro v3 ac wy fa fp thw hew maw row fiw tow H locs ls hP hD hS hl hs
      replace hs : b_X2_follow_32  (L_X2_follow_32 thw maw tow ct sg n_32) thw maw tow ct sg v3 ac wy fa fp hew row fiw = some (ac_o, wy_o, fa_o, fp_o, thw_o, hew_o, maw_o, row_o, fiw_o, tow_o) := hs
      unfold b_X2_follow_32 at hs
      refine lv_iload_n hx hb dX2_follow_32 rfl (lv_at hl 3 rfl) ?_
      refine lv_aload_n hx hb dX2_follow_33 rfl (lv_at hl 1 rfl) ?_
      refine va_get (D := (dC, dI)) (ci := 0) (v := .int ct) (C := RX0) (T := TX0) (N := 2) hx hb hts (fun w h => kg1 (iG_0 w h)) hown hK hP 4 rfl rfl 1 (by decide) (hts _ (kg1 mG_119)) (fun _ h9 => h9) rfl dX2_follow_34 ?_
      refine lv_icmp_ge (tgt := 153) hx hb dX2_follow_37 (by decide) (fun c_8 => ?_) (fun c_8 => ?_)
      · replace hs := if_p c_8 hs
        cases hs
        exact hret _ _ _ _ hP hD hS dX2_follow_153
      · replace hs := if_n c_8 hs
        refine lv_iload_n hx hb dX2_follow_40 rfl (lv_at hl 3 rfl) ?_
        refine lv_bipush (v := 60) hx hb dX2_follow_41 (by decide) ?_
        refine lv_icmp_ge (tgt := 153) hx hb dX2_follow_43 (by decide) (fun c_9 => ?_) (fun c_9 => ?_)
        · replace hs := if_p c_9 hs
          cases hs
          exact hret _ _ _ _ hP hD hS dX2_follow_153
        · replace hs := if_n c_9 hs
          refine lv_aload_n hx hb dX2_follow_46 rfl (lv_at hl 1 rfl) ?_
          refine va_get (D := (dC, dI)) (ci := 0) (v := .ref q0sg) (C := RX0) (T := TX0) (N := 2) hx hb hts (fun w h => kg1 (iG_0 w h)) hown hK hP 4 rfl rfl 0 (by decide) (hts _ (kg1 mG_120)) (fun _ h9 => h9) rfl dX2_follow_47 ?_
          refine lv_iload_n hx hb dX2_follow_50 rfl (lv_at hl 3 rfl) ?_
          obtain ⟨hg_10, hs⟩ := gd_e hs
          refine kald hx hb hK hP 5 0 rfl rfl (j := (Int32.toNatClampNeg v3)) rfl (inb_e hg_10) dX2_follow_51 ?_
          refine lv_istore (lv' := [(4, .int (sg (Int32.toNatClampNeg v3))), (0, .ref q2), (1, .ref q0), (2, .ref q3), (3, .int v3)]) hx hb dX2_follow_52 hl (by decide) rfl (fun ls hl => ?_)
          refine lv_aload_n hx hb dX2_follow_54 rfl (lv_at hl 1 rfl) ?_
          refine lv_aload_n hx hb dX2_follow_55 rfl (lv_at hl 1 rfl) ?_
          refine va_get (D := (dC, dI)) (ci := 2) (v := .ref q3w) (C := RX2) (T := TX2) (N := 5) hx hb hts (fun w h => kg1 (iG_2 w h)) hown hK hP 0 rfl rfl 0 (by decide) (hts _ (kg1 mG_72)) (fun _ h9 => h9) rfl dX2_follow_56 ?_
          refine lv_iload hx hb dX2_follow_59 (lv_at hl 0 rfl) ?_
          refine kci (wr := [(q2, .inr (2, [.ref q3w, .int ac, .int wy, .int fa, .int fp])), (q0, .inr (0, [.ref q0sg, .int ct])), (q0sg, .inl (cI, 60, .inl sg)), (q3, .inr (3, [.ref q3fi, .ref q3to, .int th, .int he, .int ma, .int ro])), (q3fi, .inl (cI, 12, .inl fi)), (q3to, .inl (cI, 12, .inl to))]) (ws' := [(q2, .inr (2, [.ref q3w, .int ac, .int wy, .int fa, .int fp])), (q3w, .inr (3, [.ref q3fiw, .ref q3tow, .int thw, .int hew, .int maw, .int row])), (q3fiw, .inl (cI, 12, .inl fiw)), (q3tow, .inl (cI, 12, .inl tow)), (q0, .inr (0, [.ref q0sg, .int ct])), (q0sg, .inl (cI, 60, .inl sg)), (q3, .inr (3, [.ref q3fi, .ref q3to, .int th, .int he, .int ma, .int ro])), (q3fi, .inl (cI, 12, .inl fi)), (q3to, .inl (cI, 12, .inl to))]) (va_runV (As := [.int (sg (Int32.toNatClampNeg v3))]) (rest := [.ref q2]) ⟨hx, hb, hml, hown, hts⟩ (k_X3_obstacle l dC dI cI cZ cS q3w q3fiw q3tow H.size thw hew maw row fiw tow (sg (Int32.toNatClampNeg v3)) _ rfl) (cwV 1 hts (kGood (kgV mG_122 mG_123 mG_124 mG_30 mG_74)) rfl rfl rfl ⟨rfl, hd_X3_obstacle⟩ ⟨Nat.le_of_ble_eq_true rfl, Nat.le_of_ble_eq_true rfl⟩) (kpV hK hN (hP.sub (ws' := [(q3w, .inr (3, [.ref q3fiw, .ref q3tow, .int thw, .int hew, .int maw, .int row])), (q3fiw, .inl (cI, 12, .inl fiw)), (q3tow, .inl (cI, 12, .inl tow))]) [1, 2, 3] rfl) (hD.sub (ws' := [(q3w, .inr (3, [.ref q3fiw, .ref q3tow, .int thw, .int hew, .int maw, .int row])), (q3fiw, .inl (cI, 12, .inl fiw)), (q3tow, .inl (cI, 12, .inl tow))]) [1, 2, 3] rfl rfl) rfl rfl rfl) rfl rfl hl.1 rfl (lv_room (Nat.le_of_ble_eq_true rfl)) dX2_follow_61 ⟨Nat.zero_le _, Nat.zero_le _⟩) hP hD hS hA [1, 2, 3] [0, 4, 5, 6, 7, 8] [0, 6, 7, 8, 1, 2, 3, 4, 5] rfl rfl rfl (by decide) rfl rfl (fun H locs hP hD hS => ?_)
          refine va_put (D := (dC, dI)) (ci := 2) (v := .int (m_X3_obstacle (sg (Int32.toNatClampNeg v3)) hew maw row)) (ty := .int) (C := RX2) (T := TX2) (N := 5) hx hb hts (fun w h => kg1 (iG_2 w h)) tyX2 tyX2_ok nmX2 hown hK hP hD hS 0 rfl rfl 2 (by decide) (hts _ (kg1 mG_118)) (fun _ h9 => h9) rfl rfl rfl rfl (Nat.le_of_ble_eq_true rfl) dX2_follow_64 (fun H locs hP hD hS => ?_)
          have hP : va_P (dC, dI) vwCl [(q2, .inr (2, [.ref q3w, .int ac, .int (m_X3_obstacle (sg (Int32.toNatClampNeg v3)) hew maw row), .int fa, .int fp])), (q3w, .inr (3, [.ref q3fiw, .ref q3tow, .int thw, .int hew, .int maw, .int row])), (q3fiw, .inl (cI, 12, .inl fiw)), (q3tow, .inl (cI, 12, .inl tow)), (q0, .inr (0, [.ref q0sg, .int ct])), (q0sg, .inl (cI, 60, .inl sg)), (q3, .inr (3, [.ref q3fi, .ref q3to, .int th, .int he, .int ma, .int ro])), (q3fi, .inl (cI, 12, .inl fi)), (q3to, .inl (cI, 12, .inl to))] H := hP
          have hD : va_D A [(q2, .inr (2, [.ref q3w, .int ac, .int (m_X3_obstacle (sg (Int32.toNatClampNeg v3)) hew maw row), .int fa, .int fp])), (q3w, .inr (3, [.ref q3fiw, .ref q3tow, .int thw, .int hew, .int maw, .int row])), (q3fiw, .inl (cI, 12, .inl fiw)), (q3tow, .inl (cI, 12, .inl tow)), (q0, .inr (0, [.ref q0sg, .int ct])), (q0sg, .inl (cI, 60, .inl sg)), (q3, .inr (3, [.ref q3fi, .ref q3to, .int th, .int he, .int ma, .int ro])), (q3fi, .inl (cI, 12, .inl fi)), (q3to, .inl (cI, 12, .inl to))] := hD
          refine lv_aload_n hx hb dX2_follow_67 rfl (lv_at hl 1 rfl) ?_
          refine va_get (D := (dC, dI)) (ci := 2) (v := .int (m_X3_obstacle (sg (Int32.toNatClampNeg v3)) hew maw row)) (C := RX2) (T := TX2) (N := 5) hx hb hts (fun w h => kg1 (iG_2 w h)) hown hK hP 0 rfl rfl 2 (by decide) (hts _ (kg1 mG_118)) (fun _ h9 => h9) rfl dX2_follow_68 ?_
          refine lv_if_eq (tgt := 75) hx hb dX2_follow_71 (by decide) (fun c_11 => ?_) (fun c_11 => ?_)
          · replace hs := if_p c_11 hs
            refine lv_aload_n hx hb dX2_follow_75 rfl (lv_at hl 1 rfl) ?_
            refine va_get (D := (dC, dI)) (ci := 2) (v := .ref q3w) (C := RX2) (T := TX2) (N := 5) hx hb hts (fun w h => kg1 (iG_2 w h)) hown hK hP 0 rfl rfl 0 (by decide) (hts _ (kg1 mG_72)) (fun _ h9 => h9) rfl dX2_follow_76 ?_
            obtain ⟨r_12, hc_13, hs⟩ := ob1_e hs
            refine kci (wr := [(q2, .inr (2, [.ref q3w, .int ac, .int (m_X3_obstacle (sg (Int32.toNatClampNeg v3)) hew maw row), .int fa, .int fp])), (q0, .inr (0, [.ref q0sg, .int ct])), (q0sg, .inl (cI, 60, .inl sg)), (q3, .inr (3, [.ref q3fi, .ref q3to, .int th, .int he, .int ma, .int ro])), (q3fi, .inl (cI, 12, .inl fi)), (q3to, .inl (cI, 12, .inl to))]) (ws' := [(q2, .inr (2, [.ref q3w, .int ac, .int (m_X3_obstacle (sg (Int32.toNatClampNeg v3)) hew maw row), .int fa, .int fp])), (q3w, .inr (3, [.ref q3fiw, .ref q3tow, .int thw, .int hew, .int maw, .int row])), (q3fiw, .inl (cI, 12, .inl fiw)), (q3tow, .inl (cI, 12, .inl tow)), (q0, .inr (0, [.ref q0sg, .int ct])), (q0sg, .inl (cI, 60, .inl sg)), (q3, .inr (3, [.ref q3fi, .ref q3to, .int th, .int he, .int ma, .int ro])), (q3fi, .inl (cI, 12, .inl fi)), (q3to, .inl (cI, 12, .inl to))]) (va_runV (As := []) (rest := []) ⟨hx, hb, hml, hown, hts⟩ (k_X3_downBits l dC dI cI cZ cS q3w q3fiw q3tow H.size thw hew maw row fiw tow r_12 hc_13) (cwV 0 hts (kGood (kgV mG_125 mG_126 mG_127 mG_30 mG_75)) rfl rfl rfl ⟨rfl, hd_X3_downBits⟩ ⟨Nat.le_of_ble_eq_true rfl, Nat.le_of_ble_eq_true rfl⟩) (kpV hK hN (hP.sub (ws' := [(q3w, .inr (3, [.ref q3fiw, .ref q3tow, .int thw, .int hew, .int maw, .int row])), (q3fiw, .inl (cI, 12, .inl fiw)), (q3tow, .inl (cI, 12, .inl tow))]) [1, 2, 3] rfl) (hD.sub (ws' := [(q3w, .inr (3, [.ref q3fiw, .ref q3tow, .int thw, .int hew, .int maw, .int row])), (q3fiw, .inl (cI, 12, .inl fiw)), (q3tow, .inl (cI, 12, .inl tow))]) [1, 2, 3] rfl rfl) rfl rfl rfl) rfl rfl hl.1 rfl (lv_room (Nat.le_of_ble_eq_true rfl)) dX2_follow_79 ⟨Nat.zero_le _, Nat.zero_le _⟩) hP hD hS hA [1, 2, 3] [0, 4, 5, 6, 7, 8] [0, 6, 7, 8, 1, 2, 3, 4, 5] rfl rfl rfl (by decide) rfl rfl (fun H locs hP hD hS => ?_)
            refine lv_istore (lv' := [(5, .int r_12), (4, .int (sg (Int32.toNatClampNeg v3))), (0, .ref q2), (1, .ref q0), (2, .ref q3), (3, .int v3)]) hx hb dX2_follow_82 hl (by decide) rfl (fun ls hl => ?_)
            refine lv_aload_n hx hb dX2_follow_84 rfl (lv_at hl 2 rfl) ?_
            refine va_get (D := (dC, dI)) (ci := 2) (v := .ref q3w) (C := RX2) (T := TX2) (N := 5) hx hb hts (fun w h => kg1 (iG_2 w h)) hown hK hP 0 rfl rfl 0 (by decide) (hts _ (kg1 mG_72)) (fun _ h9 => h9) rfl dX2_follow_85 ?_
            refine lv_iload hx hb dX2_follow_88 (lv_at hl 1 rfl) ?_
            refine lv_iload hx hb dX2_follow_90 (lv_at hl 1 rfl) ?_
            refine lv_bipush (v := 104) hx hb dX2_follow_92 (by decide) ?_
            have hJ_106 : ∀ (v3 : Int32) (v4 : Int32) (v5 : Int32) (s106_0 : Int32) (s106_1 : Int32) (ac : Int32) (wy : Int32) (fa : Int32) (fp : Int32) (hew : Int32) (row : Int32) (fiw : Ar) (H : Heap) (locs : List Loc) (ls : Array Slot), va_P (dC, dI) vwCl [(q2, .inr (2, [.ref q3w, .int ac, .int wy, .int fa, .int fp])), (q3w, .inr (3, [.ref q3fiw, .ref q3tow, .int thw, .int hew, .int maw, .int row])), (q3fiw, .inl (cI, 12, .inl fiw)), (q3tow, .inl (cI, 12, .inl tow)), (q0, .inr (0, [.ref q0sg, .int ct])), (q0sg, .inl (cI, 60, .inl sg)), (q3, .inr (3, [.ref q3fi, .ref q3to, .int th, .int he, .int ma, .int ro])), (q3fi, .inl (cI, 12, .inl fi)), (q3to, .inl (cI, 12, .inl to))] H → va_D A [(q2, .inr (2, [.ref q3w, .int ac, .int wy, .int fa, .int fp])), (q3w, .inr (3, [.ref q3fiw, .ref q3tow, .int thw, .int hew, .int maw, .int row])), (q3fiw, .inl (cI, 12, .inl fiw)), (q3tow, .inl (cI, 12, .inl tow)), (q0, .inr (0, [.ref q0sg, .int ct])), (q0sg, .inl (cI, 60, .inl sg)), (q3, .inr (3, [.ref q3fi, .ref q3to, .int th, .int he, .int ma, .int ro])), (q3fi, .inl (cI, 12, .inl fi)), (q3to, .inl (cI, 12, .inl to))] → va_S A s.heap H locs → lv_has ls 6 [(0, .ref q2), (1, .ref q0), (2, .ref q3), (3, .int v3), (4, .int v4), (5, .int v5)] → j_X2_follow_106 (L_X2_follow_32 thw maw tow ct sg n_32) v3 v4 v5 s106_0 s106_1 ac wy fa fp thw hew maw row fiw tow = some (ac_o, wy_o, fa_o, fp_o, thw_o, hew_o, maw_o, row_o, fiw_o, tow_o) → W p l e rm_X2_follow s m args below meth c H locs 0 0 Q (F0 m 106 ls [.int s106_0, .int s106_1, .ref q3w]) := by
              intro v3 v4 v5 s106_0 s106_1 ac wy fa fp hew row fiw H locs ls hP hD hS hl hs
              unfold j_X2_follow_106 at hs
              obtain ⟨hew_17, row_18, fiw_19, hc_20, hs⟩ := ob3_e hs
              refine kcv (wr := [(q2, .inr (2, [.ref q3w, .int ac, .int wy, .int fa, .int fp])), (q0, .inr (0, [.ref q0sg, .int ct])), (q0sg, .inl (cI, 60, .inl sg)), (q3, .inr (3, [.ref q3fi, .ref q3to, .int th, .int he, .int ma, .int ro])), (q3fi, .inl (cI, 12, .inl fi)), (q3to, .inl (cI, 12, .inl to))]) (ws' := [(q2, .inr (2, [.ref q3w, .int ac, .int wy, .int fa, .int fp])), (q3w, .inr (3, [.ref q3fiw, .ref q3tow, .int thw, .int hew_17, .int maw, .int row_18])), (q3fiw, .inl (cI, 12, .inl fiw_19)), (q3tow, .inl (cI, 12, .inl tow)), (q0, .inr (0, [.ref q0sg, .int ct])), (q0sg, .inl (cI, 60, .inl sg)), (q3, .inr (3, [.ref q3fi, .ref q3to, .int th, .int he, .int ma, .int ro])), (q3fi, .inl (cI, 12, .inl fi)), (q3to, .inl (cI, 12, .inl to))]) (va_runV (As := [.int s106_1, .int s106_0]) (rest := []) ⟨hx, hb, hml, hown, hts⟩ (k_X3_act l dC dI cI cZ cS q3w q3fiw q3tow H.size thw hew maw row fiw tow s106_1 s106_0 hew_17 row_18 fiw_19 hc_20) (cwV 2 hts (kGood (kgV mG_131 mG_132 mG_133 mG_30 mG_109)) rfl rfl rfl ⟨rfl, hd_X3_act⟩ ⟨Nat.le_of_ble_eq_true rfl, Nat.le_of_ble_eq_true rfl⟩) (kpV hK hN (hP.sub (ws' := [(q3w, .inr (3, [.ref q3fiw, .ref q3tow, .int thw, .int hew, .int maw, .int row])), (q3fiw, .inl (cI, 12, .inl fiw)), (q3tow, .inl (cI, 12, .inl tow))]) [1, 2, 3] rfl) (hD.sub (ws' := [(q3w, .inr (3, [.ref q3fiw, .ref q3tow, .int thw, .int hew, .int maw, .int row])), (q3fiw, .inl (cI, 12, .inl fiw)), (q3tow, .inl (cI, 12, .inl tow))]) [1, 2, 3] rfl rfl) rfl rfl rfl) rfl rfl hl.1 rfl (lv_room (Nat.le_of_ble_eq_true rfl)) dX2_follow_106 ⟨Nat.zero_le _, Nat.zero_le _⟩) hP hD hS hA [1, 2, 3] [0, 4, 5, 6, 7, 8] [0, 6, 7, 8, 1, 2, 3, 4, 5] rfl rfl rfl (by decide) rfl rfl (fun H locs hP hD hS => ?_)
              refine lv_aload_n hx hb dX2_follow_109 rfl (lv_at hl 0 rfl) ?_
              refine lv_aload_n hx hb dX2_follow_110 rfl (lv_at hl 0 rfl) ?_
              refine va_get (D := (dC, dI)) (ci := 2) (v := .ref q3w) (C := RX2) (T := TX2) (N := 5) hx hb hts (fun w h => kg1 (iG_2 w h)) hown hK hP 0 rfl rfl 0 (by decide) (hts _ (kg1 mG_72)) (fun _ h9 => h9) rfl dX2_follow_111 ?_
              obtain ⟨r_21, hc_22, hs⟩ := ob1_e hs
              refine kci (wr := [(q2, .inr (2, [.ref q3w, .int ac, .int wy, .int fa, .int fp])), (q0, .inr (0, [.ref q0sg, .int ct])), (q0sg, .inl (cI, 60, .inl sg)), (q3, .inr (3, [.ref q3fi, .ref q3to, .int th, .int he, .int ma, .int ro])), (q3fi, .inl (cI, 12, .inl fi)), (q3to, .inl (cI, 12, .inl to))]) (ws' := [(q2, .inr (2, [.ref q3w, .int ac, .int wy, .int fa, .int fp])), (q3w, .inr (3, [.ref q3fiw, .ref q3tow, .int thw, .int hew_17, .int maw, .int row_18])), (q3fiw, .inl (cI, 12, .inl fiw_19)), (q3tow, .inl (cI, 12, .inl tow)), (q0, .inr (0, [.ref q0sg, .int ct])), (q0sg, .inl (cI, 60, .inl sg)), (q3, .inr (3, [.ref q3fi, .ref q3to, .int th, .int he, .int ma, .int ro])), (q3fi, .inl (cI, 12, .inl fi)), (q3to, .inl (cI, 12, .inl to))]) (va_runV (As := []) (rest := [.ref q2]) ⟨hx, hb, hml, hown, hts⟩ (k_X3_downBits l dC dI cI cZ cS q3w q3fiw q3tow H.size thw hew_17 maw row_18 fiw_19 tow r_21 hc_22) (cwV 0 hts (kGood (kgV mG_125 mG_126 mG_127 mG_30 mG_75)) rfl rfl rfl ⟨rfl, hd_X3_downBits⟩ ⟨Nat.le_of_ble_eq_true rfl, Nat.le_of_ble_eq_true rfl⟩) (kpV hK hN (hP.sub (ws' := [(q3w, .inr (3, [.ref q3fiw, .ref q3tow, .int thw, .int hew_17, .int maw, .int row_18])), (q3fiw, .inl (cI, 12, .inl fiw_19)), (q3tow, .inl (cI, 12, .inl tow))]) [1, 2, 3] rfl) (hD.sub (ws' := [(q3w, .inr (3, [.ref q3fiw, .ref q3tow, .int thw, .int hew_17, .int maw, .int row_18])), (q3fiw, .inl (cI, 12, .inl fiw_19)), (q3tow, .inl (cI, 12, .inl tow))]) [1, 2, 3] rfl rfl) rfl rfl rfl) rfl rfl hl.1 rfl (lv_room (Nat.le_of_ble_eq_true rfl)) dX2_follow_114 ⟨Nat.zero_le _, Nat.zero_le _⟩) hP hD hS hA [1, 2, 3] [0, 4, 5, 6, 7, 8] [0, 6, 7, 8, 1, 2, 3, 4, 5] rfl rfl rfl (by decide) rfl rfl (fun H locs hP hD hS => ?_)
              refine lv_iload hx hb dX2_follow_117 (lv_at hl 5 rfl) ?_
              refine lv_iconst (v := -1) hx hb dX2_follow_119 (by decide) ?_
              refine lv_ixor hx hb dX2_follow_120 ?_
              refine lv_iand hx hb dX2_follow_121 ?_
              obtain ⟨fa_23, fp_24, hc_25, hs⟩ := ob2_e hs
              refine kcv (wr := [(q3w, .inr (3, [.ref q3fiw, .ref q3tow, .int thw, .int hew_17, .int maw, .int row_18])), (q3fiw, .inl (cI, 12, .inl fiw_19)), (q3tow, .inl (cI, 12, .inl tow)), (q0, .inr (0, [.ref q0sg, .int ct])), (q0sg, .inl (cI, 60, .inl sg)), (q3, .inr (3, [.ref q3fi, .ref q3to, .int th, .int he, .int ma, .int ro])), (q3fi, .inl (cI, 12, .inl fi)), (q3to, .inl (cI, 12, .inl to))]) (ws' := [(q2, .inr (2, [.ref q3w, .int ac, .int wy, .int fa_23, .int fp_24])), (q3w, .inr (3, [.ref q3fiw, .ref q3tow, .int thw, .int hew_17, .int maw, .int row_18])), (q3fiw, .inl (cI, 12, .inl fiw_19)), (q3tow, .inl (cI, 12, .inl tow)), (q0, .inr (0, [.ref q0sg, .int ct])), (q0sg, .inl (cI, 60, .inl sg)), (q3, .inr (3, [.ref q3fi, .ref q3to, .int th, .int he, .int ma, .int ro])), (q3fi, .inl (cI, 12, .inl fi)), (q3to, .inl (cI, 12, .inl to))]) (va_runV (As := [.int (r_21 &&& (v5 ^^^ (-1 : Int32)))]) (rest := []) ⟨hx, hb, hml, hown, hts⟩ (k_X2_noteFall l dC dI cI cZ cS q2 q3w H.size ac wy fa fp (r_21 &&& (v5 ^^^ (-1 : Int32))) fa_23 fp_24 hc_25) (cwV 1 hts (kGood (kgV mG_134 mG_135 mG_136 mG_117 mG_111)) rfl rfl rfl ⟨rfl, hd_X2_noteFall⟩ ⟨Nat.le_of_ble_eq_true rfl, Nat.le_of_ble_eq_true rfl⟩) (kpV hK hN (hP.sub (ws' := [(q2, .inr (2, [.ref q3w, .int ac, .int wy, .int fa, .int fp]))]) [0] rfl) (hD.sub (ws' := [(q2, .inr (2, [.ref q3w, .int ac, .int wy, .int fa, .int fp]))]) [0] rfl rfl) rfl rfl rfl) rfl rfl hl.1 rfl (lv_room (Nat.le_of_ble_eq_true rfl)) dX2_follow_122 ⟨Nat.zero_le _, Nat.zero_le _⟩) hP hD hS hA [0] [1, 2, 3, 4, 5, 6, 7, 8] [8, 0, 1, 2, 3, 4, 5, 6, 7] rfl rfl rfl (by decide) rfl rfl (fun H locs hP hD hS => ?_)
              refine lv_aload_n hx hb dX2_follow_125 rfl (lv_at hl 0 rfl) ?_
              refine lv_dup hx hb dX2_follow_126 rfl ?_
              refine va_get (D := (dC, dI)) (ci := 2) (v := .int ac) (C := RX2) (T := TX2) (N := 5) hx hb hts (fun w h => kg1 (iG_2 w h)) hown hK hP 0 rfl rfl 1 (by decide) (hts _ (kg1 mG_113)) (fun _ h9 => h9) rfl dX2_follow_127 ?_
              refine lv_iconst (v := 1) hx hb dX2_follow_130 (by decide) ?_
              refine lv_iadd hx hb dX2_follow_131 ?_
              refine va_put (D := (dC, dI)) (ci := 2) (v := .int (ac + (1 : Int32))) (ty := .int) (C := RX2) (T := TX2) (N := 5) hx hb hts (fun w h => kg1 (iG_2 w h)) tyX2 tyX2_ok nmX2 hown hK hP hD hS 0 rfl rfl 1 (by decide) (hts _ (kg1 mG_113)) (fun _ h9 => h9) rfl rfl rfl rfl (Nat.le_of_ble_eq_true rfl) dX2_follow_132 (fun H locs hP hD hS => ?_)
              have hP : va_P (dC, dI) vwCl [(q2, .inr (2, [.ref q3w, .int (ac + (1 : Int32)), .int wy, .int fa_23, .int fp_24])), (q3w, .inr (3, [.ref q3fiw, .ref q3tow, .int thw, .int hew_17, .int maw, .int row_18])), (q3fiw, .inl (cI, 12, .inl fiw_19)), (q3tow, .inl (cI, 12, .inl tow)), (q0, .inr (0, [.ref q0sg, .int ct])), (q0sg, .inl (cI, 60, .inl sg)), (q3, .inr (3, [.ref q3fi, .ref q3to, .int th, .int he, .int ma, .int ro])), (q3fi, .inl (cI, 12, .inl fi)), (q3to, .inl (cI, 12, .inl to))] H := hP
              have hD : va_D A [(q2, .inr (2, [.ref q3w, .int (ac + (1 : Int32)), .int wy, .int fa_23, .int fp_24])), (q3w, .inr (3, [.ref q3fiw, .ref q3tow, .int thw, .int hew_17, .int maw, .int row_18])), (q3fiw, .inl (cI, 12, .inl fiw_19)), (q3tow, .inl (cI, 12, .inl tow)), (q0, .inr (0, [.ref q0sg, .int ct])), (q0sg, .inl (cI, 60, .inl sg)), (q3, .inr (3, [.ref q3fi, .ref q3to, .int th, .int he, .int ma, .int ro])), (q3fi, .inl (cI, 12, .inl fi)), (q3to, .inl (cI, 12, .inl to))] := hD
              refine lv_iload_n hx hb dX2_follow_135 rfl (lv_at hl 3 rfl) ?_
              refine lv_iload hx hb dX2_follow_136 (lv_at hl 4 rfl) ?_
              refine lv_bipush (v := 104) hx hb dX2_follow_138 (by decide) ?_
              refine lv_icmp_ne (tgt := 147) hx hb dX2_follow_140 (by decide) (fun c_26 => ?_) (fun c_26 => ?_)
              · replace hs := if_n c_26 hs
                refine lv_iconst (v := 1) hx hb dX2_follow_147 (by decide) ?_
                refine lv_iadd hx hb dX2_follow_148 ?_
                refine lv_istore_n (lv' := [(3, .int (v3 + (1 : Int32))), (0, .ref q2), (1, .ref q0), (2, .ref q3), (4, .int v4), (5, .int v5)]) hx hb dX2_follow_149 rfl hl (by decide) rfl (fun ls hl => ?_)
                refine lv_goto (tgt := 32) hx hb dX2_follow_150 (by decide) ?_
                exact ih_32 (v3 + (1 : Int32)) (ac + (1 : Int32)) wy fa_23 fp_24 thw hew_17 maw row_18 fiw_19 tow _ _ _ hP hD hS (lv_sub hl [1, 2, 3, 0] rfl) hs
              · replace hs := if_p c_26 hs
                refine lv_iconst (v := 2) hx hb dX2_follow_143 (by decide) ?_
                refine lv_goto (tgt := 148) hx hb dX2_follow_144 (by decide) ?_
                refine lv_iadd hx hb dX2_follow_148 ?_
                refine lv_istore_n (lv' := [(3, .int (v3 + (2 : Int32))), (0, .ref q2), (1, .ref q0), (2, .ref q3), (4, .int v4), (5, .int v5)]) hx hb dX2_follow_149 rfl hl (by decide) rfl (fun ls hl => ?_)
                refine lv_goto (tgt := 32) hx hb dX2_follow_150 (by decide) ?_
                exact ih_32 (v3 + (2 : Int32)) (ac + (1 : Int32)) wy fa_23 fp_24 thw hew_17 maw row_18 fiw_19 tow _ _ _ hP hD hS (lv_sub hl [1, 2, 3, 0] rfl) hs
            refine lv_icmp_ne (tgt := 105) hx hb dX2_follow_94 (by decide) (fun c_14 => ?_) (fun c_14 => ?_)
            · replace hs := if_n c_14 hs
              refine lv_iconst (v := 0) hx hb dX2_follow_105 (by decide) ?_
              exact hJ_106 v3 (sg (Int32.toNatClampNeg v3)) r_12 (0 : Int32) (sg (Int32.toNatClampNeg v3)) ac (m_X3_obstacle (sg (Int32.toNatClampNeg v3)) hew maw row) fa fp hew row fiw _ _ _ hP hD hS (lv_sub hl [2, 3, 4, 5, 1, 0] rfl) hs
            · replace hs := if_p c_14 hs
              refine lv_aload_n hx hb dX2_follow_97 rfl (lv_at hl 3 rfl) ?_
              refine lv_iload_n hx hb dX2_follow_98 rfl (lv_at hl 5 rfl) ?_
              obtain ⟨r_15, hc_16, hs⟩ := ob1_e hs
              refine kci (wr := [(q2, .inr (2, [.ref q3w, .int ac, .int (m_X3_obstacle (sg (Int32.toNatClampNeg v3)) hew maw row), .int fa, .int fp])), (q3w, .inr (3, [.ref q3fiw, .ref q3tow, .int thw, .int hew, .int maw, .int row])), (q3fiw, .inl (cI, 12, .inl fiw)), (q3tow, .inl (cI, 12, .inl tow)), (q3, .inr (3, [.ref q3fi, .ref q3to, .int th, .int he, .int ma, .int ro])), (q3fi, .inl (cI, 12, .inl fi)), (q3to, .inl (cI, 12, .inl to))]) (ws' := [(q2, .inr (2, [.ref q3w, .int ac, .int (m_X3_obstacle (sg (Int32.toNatClampNeg v3)) hew maw row), .int fa, .int fp])), (q3w, .inr (3, [.ref q3fiw, .ref q3tow, .int thw, .int hew, .int maw, .int row])), (q3fiw, .inl (cI, 12, .inl fiw)), (q3tow, .inl (cI, 12, .inl tow)), (q0, .inr (0, [.ref q0sg, .int ct])), (q0sg, .inl (cI, 60, .inl sg)), (q3, .inr (3, [.ref q3fi, .ref q3to, .int th, .int he, .int ma, .int ro])), (q3fi, .inl (cI, 12, .inl fi)), (q3to, .inl (cI, 12, .inl to))]) (va_runV (As := [.int v3]) (rest := [.int (sg (Int32.toNatClampNeg v3)), .ref q3w]) ⟨hx, hb, hml, hown, hts⟩ (k_X0_toneBehind l dC dI cI cZ cS q0 q0sg H.size ct sg v3 r_15 hc_16) (cwV 1 hts (kGood (kgV mG_128 mG_129 mG_130 mG_16 mG_17)) rfl rfl rfl ⟨rfl, hd_X0_toneBehind⟩ ⟨Nat.le_of_ble_eq_true rfl, Nat.le_of_ble_eq_true rfl⟩) (kpV hK hN (hP.sub (ws' := [(q0, .inr (0, [.ref q0sg, .int ct])), (q0sg, .inl (cI, 60, .inl sg))]) [4, 5] rfl) (hD.sub (ws' := [(q0, .inr (0, [.ref q0sg, .int ct])), (q0sg, .inl (cI, 60, .inl sg))]) [4, 5] rfl rfl) rfl rfl rfl) rfl rfl hl.1 rfl (lv_room (Nat.le_of_ble_eq_true rfl)) dX2_follow_99 ⟨Nat.zero_le _, Nat.zero_le _⟩) hP hD hS hA [4, 5] [0, 1, 2, 3, 6, 7, 8] [0, 1, 2, 3, 7, 8, 4, 5, 6] rfl rfl rfl (by decide) rfl rfl (fun H locs hP hD hS => ?_)
              refine lv_goto (tgt := 106) hx hb dX2_follow_102 (by decide) ?_
              exact hJ_106 v3 (sg (Int32.toNatClampNeg v3)) r_12 r_15 (sg (Int32.toNatClampNeg v3)) ac (m_X3_obstacle (sg (Int32.toNatClampNeg v3)) hew maw row) fa fp hew row fiw _ _ _ hP hD hS (lv_sub hl [2, 3, 4, 5, 1, 0] rfl) hs
          · replace hs := if_n c_11 hs
            cases hs
            exact hret _ _ _ _ hP hD hS dX2_follow_74
  exact hL_32 fu (0 : Int32) (0 : Int32) (0 : Int32) (-6 : Int32) (-6 : Int32) thw_1 hew_2 maw_3 row_4 fiw_5 tow_6 _ _ _ hP hD hS (lv_sub hl [1, 2, 3, 0] rfl) hs
