abbrev rm_X4_isOutside : Room := { frames := 0, cells := 0, slots := 0, locals := 0 }
theorem hd_X4_isOutside : yX4_isOutside.cls ≠ "java/lang/invoke/MethodHandle" ∧ yX4_isOutside.cls ≠ "java/lang/invoke/VarHandle" ∧ (parseMethodDescriptor yX4_isOutside.desc).map (fun d => d.parameters.length) = some 3 := by decide +kernel
set_option maxHeartbeats 4000000 in
set_option maxRecDepth 100000 in
theorem k_X4_isOutside (l : Launch) (v0 : Int32) (v1 : Int32) (v2 : Int32) (r0 : Int32) (hs : m_X4_isOutside v0 v1 v2 = r0) : Met l yX4_isOutside (.code yX4_isOutside cX4_isOutside 3 (some .boolean) :: kG) rm_X4_isOutside (fun v _ => v = ([.int v0, .int v1, .int v2] : List Value).toArray) (vp_Si (fun r => r = r0)) 0 0 (fun _ => False) := by
  refine kPi (own := RX4) (ty := .boolean) rfl (by decide) rfl ?_ (Nat.le_of_ble_eq_true rfl)
  intro p e s m args below meth c H Q CF hret ls hl
  obtain ⟨hx, hb, hml, hown, hts⟩ := id CF
  have hl : lv_has ls 3 [(0, .int v0), (1, .int v1), (2, .int v2)] := hl
  unfold m_X4_isOutside at hs
  refine lv_iload_n hx hb dX4_isOutside_0 rfl (lv_at hl 0 rfl) ?_
  refine lv_iload_n hx hb dX4_isOutside_1 rfl (lv_at hl 1 rfl) ?_
  refine lv_icmp_lt (tgt := 10) hx hb dX4_isOutside_2 (by decide) (fun c_1 => ?_) (fun c_1 => ?_)
  · replace hs := if_p c_1 hs
    refine lv_iconst (v := 1) hx hb dX4_isOutside_10 (by decide) ?_
    refine lv_goto (tgt := 15) hx hb dX4_isOutside_11 (by decide) ?_
    cases hs
    exact hret _ _ rfl dX4_isOutside_15
  · replace hs := if_n c_1 hs
    refine lv_iload_n hx hb dX4_isOutside_5 rfl (lv_at hl 0 rfl) ?_
    refine lv_iload_n hx hb dX4_isOutside_6 rfl (lv_at hl 2 rfl) ?_
    refine lv_icmp_le (tgt := 14) hx hb dX4_isOutside_7 (by decide) (fun c_2 => ?_) (fun c_2 => ?_)
    · replace hs := if_p c_2 hs
      refine lv_iconst (v := 0) hx hb dX4_isOutside_14 (by decide) ?_
      cases hs
      exact hret _ _ rfl dX4_isOutside_15
    · replace hs := if_n c_2 hs
      refine lv_iconst (v := 1) hx hb dX4_isOutside_10 (by decide) ?_
      refine lv_goto (tgt := 15) hx hb dX4_isOutside_11 (by decide) ?_
      cases hs
      exact hret _ _ rfl dX4_isOutside_15
abbrev rm_X0_isAct : Room := { frames := 0, cells := 0, slots := 0, locals := 0 }
theorem hd_X0_isAct : yX0_isAct.cls ≠ "java/lang/invoke/MethodHandle" ∧ yX0_isAct.cls ≠ "java/lang/invoke/VarHandle" ∧ (parseMethodDescriptor yX0_isAct.desc).map (fun d => d.parameters.length) = some 1 := by decide +kernel
set_option maxHeartbeats 4000000 in
set_option maxRecDepth 100000 in
theorem k_X0_isAct (l : Launch) (v0 : Int32) (r0 : Int32) (hs : m_X0_isAct v0 = r0) : Met l yX0_isAct (.code yX0_isAct cX0_isAct 1 (some .boolean) :: kG) rm_X0_isAct (fun v _ => v = ([.int v0] : List Value).toArray) (vp_Si (fun r => r = r0)) 0 0 (fun _ => False) := by
  refine kPi (own := RX0) (ty := .boolean) rfl (by decide) rfl ?_ (Nat.le_of_ble_eq_true rfl)
  intro p e s m args below meth c H Q CF hret ls hl
  obtain ⟨hx, hb, hml, hown, hts⟩ := id CF
  have hl : lv_has ls 1 [(0, .int v0)] := hl
  unfold m_X0_isAct at hs
  refine lv_iload_n hx hb dX0_isAct_0 rfl (lv_at hl 0 rfl) ?_
  refine lv_bipush (v := 46) hx hb dX0_isAct_1 (by decide) ?_
  refine lv_icmp_eq (tgt := 24) hx hb dX0_isAct_3 (by decide) (fun c_1 => ?_) (fun c_1 => ?_)
  · replace hs := if_p c_1 hs
    refine lv_iconst (v := 1) hx hb dX0_isAct_24 (by decide) ?_
    refine lv_goto (tgt := 29) hx hb dX0_isAct_25 (by decide) ?_
    cases hs
    exact hret _ _ rfl dX0_isAct_29
  · replace hs := if_n c_1 hs
    refine lv_iload_n hx hb dX0_isAct_6 rfl (lv_at hl 0 rfl) ?_
    refine lv_bipush (v := 104) hx hb dX0_isAct_7 (by decide) ?_
    refine lv_icmp_eq (tgt := 24) hx hb dX0_isAct_9 (by decide) (fun c_2 => ?_) (fun c_2 => ?_)
    · replace hs := if_p c_2 hs
      refine lv_iconst (v := 1) hx hb dX0_isAct_24 (by decide) ?_
      refine lv_goto (tgt := 29) hx hb dX0_isAct_25 (by decide) ?_
      cases hs
      exact hret _ _ rfl dX0_isAct_29
    · replace hs := if_n c_2 hs
      refine lv_iload_n hx hb dX0_isAct_12 rfl (lv_at hl 0 rfl) ?_
      refine lv_bipush (v := 33) hx hb dX0_isAct_13 (by decide) ?_
      refine lv_icmp_eq (tgt := 24) hx hb dX0_isAct_15 (by decide) (fun c_3 => ?_) (fun c_3 => ?_)
      · replace hs := if_p c_3 hs
        refine lv_iconst (v := 1) hx hb dX0_isAct_24 (by decide) ?_
        refine lv_goto (tgt := 29) hx hb dX0_isAct_25 (by decide) ?_
        cases hs
        exact hret _ _ rfl dX0_isAct_29
      · replace hs := if_n c_3 hs
        refine lv_iload_n hx hb dX0_isAct_18 rfl (lv_at hl 0 rfl) ?_
        refine lv_bipush (v := 110) hx hb dX0_isAct_19 (by decide) ?_
        refine lv_icmp_ne (tgt := 28) hx hb dX0_isAct_21 (by decide) (fun c_4 => ?_) (fun c_4 => ?_)
        · replace hs := if_n c_4 hs
          refine lv_iconst (v := 0) hx hb dX0_isAct_28 (by decide) ?_
          cases hs
          exact hret _ _ rfl dX0_isAct_29
        · replace hs := if_p c_4 hs
          refine lv_iconst (v := 1) hx hb dX0_isAct_24 (by decide) ?_
          refine lv_goto (tgt := 29) hx hb dX0_isAct_25 (by decide) ?_
          cases hs
          exact hret _ _ rfl dX0_isAct_29
abbrev rm_J6_bitCount_0f7a4 : Room := { frames := 0, cells := 0, slots := 0, locals := 0 }
theorem hd_J6_bitCount_0f7a4 : yJ6_bitCount_0f7a4.cls ≠ "java/lang/invoke/MethodHandle" ∧ yJ6_bitCount_0f7a4.cls ≠ "java/lang/invoke/VarHandle" ∧ (parseMethodDescriptor yJ6_bitCount_0f7a4.desc).map (fun d => d.parameters.length) = some 1 := by decide +kernel
set_option maxHeartbeats 4000000 in
set_option maxRecDepth 100000 in
theorem k_J6_bitCount_0f7a4 (l : Launch) (v0 : Int32) (r0 : Int32) (hs : m_J6_bitCount_0f7a4 v0 = r0) : Met l yJ6_bitCount_0f7a4 (.code yJ6_bitCount_0f7a4 cJ6_bitCount_0f7a4 1 (some .int) :: kG) rm_J6_bitCount_0f7a4 (fun v _ => v = ([.int v0] : List Value).toArray) (vp_Si (fun r => r = r0)) 0 0 (fun _ => False) := by
  refine kPi (own := RJ6) (ty := .int) rfl (by decide) rfl ?_ (Nat.le_of_ble_eq_true rfl)
  intro p e s m args below meth c H Q CF hret ls hl
  obtain ⟨hx, hb, hml, hown, hts⟩ := id CF
  have hl : lv_has ls 1 [(0, .int v0)] := hl
  unfold m_J6_bitCount_0f7a4 at hs
  refine lv_iload_n hx hb dJ6_bitCount_0f7a4_0 rfl (lv_at hl 0 rfl) ?_
  refine lv_iload_n hx hb dJ6_bitCount_0f7a4_1 rfl (lv_at hl 0 rfl) ?_
  refine lv_iconst (v := 1) hx hb dJ6_bitCount_0f7a4_2 (by decide) ?_
  refine lv_iushr hx hb dJ6_bitCount_0f7a4_3 rfl ?_
  refine lv_ldcw (v := 1431655765) hx hb hown (hts _ (kg1 mG_53)) dJ6_bitCount_0f7a4_4 ?_
  refine lv_iand hx hb dJ6_bitCount_0f7a4_7 ?_
  refine lv_isub hx hb dJ6_bitCount_0f7a4_8 ?_
  refine lv_topi (fun w_1 ew_1 => ?_)
  replace hs := bnd_e ew_1 hs
  refine lv_istore_n (lv' := [(0, .int w_1)]) hx hb dJ6_bitCount_0f7a4_9 rfl hl (by decide) rfl (fun ls hl => ?_)
  refine lv_iload_n hx hb dJ6_bitCount_0f7a4_10 rfl (lv_at hl 0 rfl) ?_
  refine lv_ldcw (v := 858993459) hx hb hown (hts _ (kg1 mG_54)) dJ6_bitCount_0f7a4_11 ?_
  refine lv_iand hx hb dJ6_bitCount_0f7a4_14 ?_
  refine lv_iload_n hx hb dJ6_bitCount_0f7a4_15 rfl (lv_at hl 0 rfl) ?_
  refine lv_iconst (v := 2) hx hb dJ6_bitCount_0f7a4_16 (by decide) ?_
  refine lv_iushr hx hb dJ6_bitCount_0f7a4_17 rfl ?_
  refine lv_ldcw (v := 858993459) hx hb hown (hts _ (kg1 mG_54)) dJ6_bitCount_0f7a4_18 ?_
  refine lv_iand hx hb dJ6_bitCount_0f7a4_21 ?_
  refine lv_iadd hx hb dJ6_bitCount_0f7a4_22 ?_
  refine lv_topi (fun w_2 ew_2 => ?_)
  replace hs := bnd_e ew_2 hs
  refine lv_istore_n (lv' := [(0, .int w_2)]) hx hb dJ6_bitCount_0f7a4_23 rfl hl (by decide) rfl (fun ls hl => ?_)
  refine lv_iload_n hx hb dJ6_bitCount_0f7a4_24 rfl (lv_at hl 0 rfl) ?_
  refine lv_iload_n hx hb dJ6_bitCount_0f7a4_25 rfl (lv_at hl 0 rfl) ?_
  refine lv_iconst (v := 4) hx hb dJ6_bitCount_0f7a4_26 (by decide) ?_
  refine lv_iushr hx hb dJ6_bitCount_0f7a4_27 rfl ?_
  refine lv_iadd hx hb dJ6_bitCount_0f7a4_28 ?_
  refine lv_ldcw (v := 252645135) hx hb hown (hts _ (kg1 mG_55)) dJ6_bitCount_0f7a4_29 ?_
  refine lv_iand hx hb dJ6_bitCount_0f7a4_32 ?_
  refine lv_topi (fun w_3 ew_3 => ?_)
  replace hs := bnd_e ew_3 hs
  refine lv_istore_n (lv' := [(0, .int w_3)]) hx hb dJ6_bitCount_0f7a4_33 rfl hl (by decide) rfl (fun ls hl => ?_)
  refine lv_iload_n hx hb dJ6_bitCount_0f7a4_34 rfl (lv_at hl 0 rfl) ?_
  refine lv_iload_n hx hb dJ6_bitCount_0f7a4_35 rfl (lv_at hl 0 rfl) ?_
  refine lv_bipush (v := 8) hx hb dJ6_bitCount_0f7a4_36 (by decide) ?_
  refine lv_iushr hx hb dJ6_bitCount_0f7a4_38 rfl ?_
  refine lv_iadd hx hb dJ6_bitCount_0f7a4_39 ?_
  refine lv_topi (fun w_4 ew_4 => ?_)
  replace hs := bnd_e ew_4 hs
  refine lv_istore_n (lv' := [(0, .int w_4)]) hx hb dJ6_bitCount_0f7a4_40 rfl hl (by decide) rfl (fun ls hl => ?_)
  refine lv_iload_n hx hb dJ6_bitCount_0f7a4_41 rfl (lv_at hl 0 rfl) ?_
  refine lv_iload_n hx hb dJ6_bitCount_0f7a4_42 rfl (lv_at hl 0 rfl) ?_
  refine lv_bipush (v := 16) hx hb dJ6_bitCount_0f7a4_43 (by decide) ?_
  refine lv_iushr hx hb dJ6_bitCount_0f7a4_45 rfl ?_
  refine lv_iadd hx hb dJ6_bitCount_0f7a4_46 ?_
  refine lv_topi (fun w_5 ew_5 => ?_)
  replace hs := bnd_e ew_5 hs
  refine lv_istore_n (lv' := [(0, .int w_5)]) hx hb dJ6_bitCount_0f7a4_47 rfl hl (by decide) rfl (fun ls hl => ?_)
  refine lv_iload_n hx hb dJ6_bitCount_0f7a4_48 rfl (lv_at hl 0 rfl) ?_
  refine lv_bipush (v := 63) hx hb dJ6_bitCount_0f7a4_49 (by decide) ?_
  refine lv_iand hx hb dJ6_bitCount_0f7a4_51 ?_
  cases hs
  exact hret _ _ (vp_nar_int _) dJ6_bitCount_0f7a4_52
abbrev rm_X4_echo : Room := { frames := 0, cells := 0, slots := 0, locals := 0 }
theorem hd_X4_echo : yX4_echo.cls ≠ "java/lang/invoke/MethodHandle" ∧ yX4_echo.cls ≠ "java/lang/invoke/VarHandle" ∧ (parseMethodDescriptor yX4_echo.desc).map (fun d => d.parameters.length) = some 2 := by decide +kernel
set_option maxHeartbeats 4000000 in
set_option maxRecDepth 100000 in
theorem k_X4_echo (l : Launch) (v0 : Int32) (v1 : Int32) (r0 : Int32) (hs : m_X4_echo v0 v1 = r0) : Met l yX4_echo (.code yX4_echo cX4_echo 3 (some .int) :: kG) rm_X4_echo (fun v _ => v = ([.int v0, .int v1] : List Value).toArray) (vp_Si (fun r => r = r0)) 0 0 (fun _ => False) := by
  refine kPi (own := RX4) (ty := .int) rfl (by decide) rfl ?_ (Nat.le_of_ble_eq_true rfl)
  intro p e s m args below meth c H Q CF hret ls hl
  obtain ⟨hx, hb, hml, hown, hts⟩ := id CF
  have hl : lv_has ls 3 [(0, .int v0), (1, .int v1)] := hl
  unfold m_X4_echo at hs
  refine lv_iload_n hx hb dX4_echo_0 rfl (lv_at hl 0 rfl) ?_
  refine lv_iload_n hx hb dX4_echo_1 rfl (lv_at hl 1 rfl) ?_
  have hJ_14 : ∀ (s14_0 : Int32) (ls : Array Slot), lv_has ls 3 [] → j_X4_echo_14 s14_0 = r0 → W p l e rm_X4_echo s m args below meth c H [] 0 0 Q (F0 m 14 ls [.int s14_0]) := by
    intro s14_0 ls hl hs
    unfold j_X4_echo_14 at hs
    refine lv_istore_n (lv' := [(2, .int s14_0)]) hx hb dX4_echo_14 rfl hl (by decide) rfl (fun ls hl => ?_)
    refine lv_iload_n hx hb dX4_echo_15 rfl (lv_at hl 0 rfl) ?_
    refine lv_iconst (v := 2) hx hb dX4_echo_16 (by decide) ?_
    refine lv_icmp_ge (tgt := 26) hx hb dX4_echo_17 (by decide) (fun c_2 => ?_) (fun c_2 => ?_)
    · replace hs := if_p c_2 hs
      refine lv_iconst (v := 0) hx hb dX4_echo_26 (by decide) ?_
      cases hs
      exact hret _ _ (vp_nar_int _) dX4_echo_27
    · replace hs := if_n c_2 hs
      refine lv_iconst (v := 2) hx hb dX4_echo_20 (by decide) ?_
      refine lv_iload_n hx hb dX4_echo_21 rfl (lv_at hl 0 rfl) ?_
      refine lv_isub hx hb dX4_echo_22 ?_
      refine lv_goto (tgt := 27) hx hb dX4_echo_23 (by decide) ?_
      cases hs
      exact hret _ _ (vp_nar_int _) dX4_echo_27
  refine lv_icmp_le (tgt := 11) hx hb dX4_echo_2 (by decide) (fun c_1 => ?_) (fun c_1 => ?_)
  · replace hs := if_p c_1 hs
    refine lv_iload_n hx hb dX4_echo_11 rfl (lv_at hl 1 rfl) ?_
    refine lv_iload_n hx hb dX4_echo_12 rfl (lv_at hl 0 rfl) ?_
    refine lv_isub hx hb dX4_echo_13 ?_
    exact hJ_14 (v1 - v0) _ (lv_sub hl [] rfl) hs
  · replace hs := if_n c_1 hs
    refine lv_iload_n hx hb dX4_echo_5 rfl (lv_at hl 0 rfl) ?_
    refine lv_iload_n hx hb dX4_echo_6 rfl (lv_at hl 1 rfl) ?_
    refine lv_isub hx hb dX4_echo_7 ?_
    refine lv_goto (tgt := 14) hx hb dX4_echo_8 (by decide) ?_
    exact hJ_14 (v0 - v1) _ (lv_sub hl [] rfl) hs
abbrev rm_X2_leastOf : Room := { frames := 0, cells := 0, slots := 0, locals := 0 }
theorem hd_X2_leastOf : yX2_leastOf.cls ≠ "java/lang/invoke/MethodHandle" ∧ yX2_leastOf.cls ≠ "java/lang/invoke/VarHandle" ∧ (parseMethodDescriptor yX2_leastOf.desc).map (fun d => d.parameters.length) = some 1 := by decide +kernel
set_option maxHeartbeats 4000000 in
set_option maxRecDepth 100000 in
theorem k_X2_leastOf (l : Launch) (v0 : Int32) (r0 : Int32) (hs : m_X2_leastOf v0 = some r0) : Met l yX2_leastOf (.code yX2_leastOf cX2_leastOf 2 (some .int) :: kG) rm_X2_leastOf (fun v _ => v = ([.int v0] : List Value).toArray) (vp_Si (fun r => r = r0)) 0 0 (fun _ => False) := by
  refine kPi (own := RX2) (ty := .int) rfl (by decide) rfl ?_ (Nat.le_of_ble_eq_true rfl)
  intro p e s m args below meth c H Q CF hret ls hl
  obtain ⟨hx, hb, hml, hown, hts⟩ := id CF
  have hl : lv_has ls 2 [(0, .int v0)] := hl
  unfold m_X2_leastOf at hs
  refine lv_iconst (v := 0) hx hb dX2_leastOf_0 (by decide) ?_
  refine lv_istore_n (lv' := [(1, .int (0 : Int32)), (0, .int v0)]) hx hb dX2_leastOf_1 rfl hl (by decide) rfl (fun ls hl => ?_)
  have hL_2 : ∀ (n : Nat) (v1 : Int32) (ls : Array Slot), lv_has ls 2 [(0, .int v0), (1, .int v1)] → L_X2_leastOf_2 v0 n v1 = some r0 → W p l e rm_X2_leastOf s m args below meth c H [] 0 0 Q (F0 m 2 ls []) := by
    intro n
    induction n with
    | zero =>
      intro v1 ls hl hs
      replace hs : (none : Option (Int32)) = some r0 := hs
      cases hs
    | succ n_2 ih_2 =>
      intro v1 ls hl hs
      replace hs : b_X2_leastOf_2  (L_X2_leastOf_2 v0 n_2) v0 v1 = some r0 := hs
      unfold b_X2_leastOf_2 at hs
      refine lv_iload_n hx hb dX2_leastOf_2 rfl (lv_at hl 1 rfl) ?_
      refine lv_bipush (v := 11) hx hb dX2_leastOf_3 (by decide) ?_
      refine lv_icmp_ge (tgt := 22) hx hb dX2_leastOf_5 (by decide) (fun c_1 => ?_) (fun c_1 => ?_)
      · replace hs := if_p c_1 hs
        refine lv_iload_n hx hb dX2_leastOf_22 rfl (lv_at hl 1 rfl) ?_
        cases hs
        exact hret _ _ (vp_nar_int _) dX2_leastOf_23
      · replace hs := if_n c_1 hs
        refine lv_iload_n hx hb dX2_leastOf_8 rfl (lv_at hl 0 rfl) ?_
        refine lv_iload_n hx hb dX2_leastOf_9 rfl (lv_at hl 1 rfl) ?_
        refine lv_ishr hx hb dX2_leastOf_10 ?_
        refine lv_iconst (v := 1) hx hb dX2_leastOf_11 (by decide) ?_
        refine lv_iand hx hb dX2_leastOf_12 ?_
        refine lv_if_ne (tgt := 22) hx hb dX2_leastOf_13 (by decide) (fun c_2 => ?_) (fun c_2 => ?_)
        · replace hs := if_n c_2 hs
          refine lv_iload_n hx hb dX2_leastOf_22 rfl (lv_at hl 1 rfl) ?_
          cases hs
          exact hret _ _ (vp_nar_int _) dX2_leastOf_23
        · replace hs := if_p c_2 hs
          refine lv_iinc (v := (v1 + 1)) (lv' := [(1, .int (v1 + 1)), (0, .int v0)]) hx hb dX2_leastOf_16 hl (k := 1) rfl rfl (by decide) rfl (fun ls hl => ?_)
          refine lv_goto (tgt := 2) hx hb dX2_leastOf_19 (by decide) ?_
          exact ih_2 (v1 + 1) _ (lv_sub hl [1, 0] rfl) hs
  exact hL_2 fu (0 : Int32) _ (lv_sub hl [1, 0] rfl) hs
abbrev rm_X3_drawnSign : Room := { frames := 0, cells := 0, slots := 0, locals := 0 }
theorem hd_X3_drawnSign : yX3_drawnSign.cls ≠ "java/lang/invoke/MethodHandle" ∧ yX3_drawnSign.cls ≠ "java/lang/invoke/VarHandle" ∧ (parseMethodDescriptor yX3_drawnSign.desc).map (fun d => d.parameters.length) = some 1 := by decide +kernel
set_option maxHeartbeats 4000000 in
set_option maxRecDepth 100000 in
theorem k_X3_drawnSign (l : Launch) (v0 : Int32) (r0 : Int32) (hs : m_X3_drawnSign v0 = r0) : Met l yX3_drawnSign (.code yX3_drawnSign cX3_drawnSign 1 (some .int) :: kG) rm_X3_drawnSign (fun v _ => v = ([.int v0] : List Value).toArray) (vp_Si (fun r => r = r0)) 0 0 (fun _ => False) := by
  refine kPi (own := RX3) (ty := .int) rfl (by decide) rfl ?_ (Nat.le_of_ble_eq_true rfl)
  intro p e s m args below meth c H Q CF hret ls hl
  obtain ⟨hx, hb, hml, hown, hts⟩ := id CF
  have hl : lv_has ls 1 [(0, .int v0)] := hl
  unfold m_X3_drawnSign at hs
  refine lv_iload_n hx hb dX3_drawnSign_0 rfl (lv_at hl 0 rfl) ?_
  by_cases c_1 : v0 = (4 : Int32)
  · replace hs := if_p c_1 hs
    refine lv_tableIn (off := 31) (tgt := 32) hx hb dX3_drawnSign_1 (by rw [c_1]; decide) (by rw [c_1]; decide) (by rw [c_1]; decide) (by decide) ?_
    refine lv_bipush (v := 104) hx hb dX3_drawnSign_32 (by decide) ?_
    cases hs
    exact hret _ _ (vp_nar_int _) dX3_drawnSign_34
  replace hs := if_n c_1 hs
  by_cases c_2 : v0 = (5 : Int32)
  · replace hs := if_p c_2 hs
    refine lv_tableIn (off := 31) (tgt := 32) hx hb dX3_drawnSign_1 (by rw [c_2]; decide) (by rw [c_2]; decide) (by rw [c_2]; decide) (by decide) ?_
    refine lv_bipush (v := 104) hx hb dX3_drawnSign_32 (by decide) ?_
    cases hs
    exact hret _ _ (vp_nar_int _) dX3_drawnSign_34
  replace hs := if_n c_2 hs
  by_cases c_3 : v0 = (6 : Int32)
  · replace hs := if_p c_3 hs
    refine lv_tableIn (off := 34) (tgt := 35) hx hb dX3_drawnSign_1 (by rw [c_3]; decide) (by rw [c_3]; decide) (by rw [c_3]; decide) (by decide) ?_
    refine lv_bipush (v := 33) hx hb dX3_drawnSign_35 (by decide) ?_
    cases hs
    exact hret _ _ (vp_nar_int _) dX3_drawnSign_37
  replace hs := if_n c_3 hs
  by_cases c_4 : v0 = (7 : Int32)
  · replace hs := if_p c_4 hs
    refine lv_tableIn (off := 37) (tgt := 38) hx hb dX3_drawnSign_1 (by rw [c_4]; decide) (by rw [c_4]; decide) (by rw [c_4]; decide) (by decide) ?_
    refine lv_bipush (v := 110) hx hb dX3_drawnSign_38 (by decide) ?_
    cases hs
    exact hret _ _ (vp_nar_int _) dX3_drawnSign_40
  replace hs := if_n c_4 hs
  refine lv_tableOut (tgt := 41) hx hb dX3_drawnSign_1 (by have := lv_neT c_1 (a := 4) (by decide); have := lv_neT c_2 (a := 5) (by decide); have := lv_neT c_3 (a := 6) (by decide); have := lv_neT c_4 (a := 7) (by decide); omega) (by decide) ?_
  refine lv_bipush (v := 46) hx hb dX3_drawnSign_41 (by decide) ?_
  cases hs
  exact hret _ _ (vp_nar_int _) dX3_drawnSign_43
abbrev rm_X4_powerOfTen : Room := { frames := 0, cells := 0, slots := 0, locals := 0 }
theorem hd_X4_powerOfTen : yX4_powerOfTen.cls ≠ "java/lang/invoke/MethodHandle" ∧ yX4_powerOfTen.cls ≠ "java/lang/invoke/VarHandle" ∧ (parseMethodDescriptor yX4_powerOfTen.desc).map (fun d => d.parameters.length) = some 1 := by decide +kernel
set_option maxHeartbeats 4000000 in
set_option maxRecDepth 100000 in
theorem k_X4_powerOfTen (l : Launch) (v0 : Int32) (r0 : Int32) (hs : m_X4_powerOfTen v0 = some r0) : Met l yX4_powerOfTen (.code yX4_powerOfTen cX4_powerOfTen 3 (some .int) :: kG) rm_X4_powerOfTen (fun v _ => v = ([.int v0] : List Value).toArray) (vp_Si (fun r => r = r0)) 0 0 (fun _ => False) := by
  refine kPi (own := RX4) (ty := .int) rfl (by decide) rfl ?_ (Nat.le_of_ble_eq_true rfl)
  intro p e s m args below meth c H Q CF hret ls hl
  obtain ⟨hx, hb, hml, hown, hts⟩ := id CF
  have hl : lv_has ls 3 [(0, .int v0)] := hl
  unfold m_X4_powerOfTen at hs
  refine lv_iconst (v := 1) hx hb dX4_powerOfTen_0 (by decide) ?_
  refine lv_istore_n (lv' := [(1, .int (1 : Int32)), (0, .int v0)]) hx hb dX4_powerOfTen_1 rfl hl (by decide) rfl (fun ls hl => ?_)
  refine lv_iconst (v := 0) hx hb dX4_powerOfTen_2 (by decide) ?_
  refine lv_istore_n (lv' := [(2, .int (0 : Int32)), (1, .int (1 : Int32)), (0, .int v0)]) hx hb dX4_powerOfTen_3 rfl hl (by decide) rfl (fun ls hl => ?_)
  have hL_4 : ∀ (n : Nat) (v1 : Int32) (v2 : Int32) (ls : Array Slot), lv_has ls 3 [(0, .int v0), (1, .int v1), (2, .int v2)] → L_X4_powerOfTen_4 v0 n v1 v2 = some r0 → W p l e rm_X4_powerOfTen s m args below meth c H [] 0 0 Q (F0 m 4 ls []) := by
    intro n
    induction n with
    | zero =>
      intro v1 v2 ls hl hs
      replace hs : (none : Option (Int32)) = some r0 := hs
      cases hs
    | succ n_4 ih_4 =>
      intro v1 v2 ls hl hs
      replace hs : b_X4_powerOfTen_4  (L_X4_powerOfTen_4 v0 n_4) v0 v1 v2 = some r0 := hs
      unfold b_X4_powerOfTen_4 at hs
      refine lv_iload_n hx hb dX4_powerOfTen_4 rfl (lv_at hl 2 rfl) ?_
      refine lv_iload_n hx hb dX4_powerOfTen_5 rfl (lv_at hl 0 rfl) ?_
      refine lv_icmp_ge (tgt := 20) hx hb dX4_powerOfTen_6 (by decide) (fun c_1 => ?_) (fun c_1 => ?_)
      · replace hs := if_p c_1 hs
        refine lv_iload_n hx hb dX4_powerOfTen_20 rfl (lv_at hl 1 rfl) ?_
        cases hs
        exact hret _ _ (vp_nar_int _) dX4_powerOfTen_21
      · replace hs := if_n c_1 hs
        refine lv_iload_n hx hb dX4_powerOfTen_9 rfl (lv_at hl 1 rfl) ?_
        refine lv_bipush (v := 10) hx hb dX4_powerOfTen_10 (by decide) ?_
        refine lv_imul hx hb dX4_powerOfTen_12 ?_
        refine lv_istore_n (lv' := [(1, .int (v1 * (10 : Int32))), (0, .int v0), (2, .int v2)]) hx hb dX4_powerOfTen_13 rfl hl (by decide) rfl (fun ls hl => ?_)
        refine lv_iinc (v := (v2 + 1)) (lv' := [(2, .int (v2 + 1)), (1, .int (v1 * (10 : Int32))), (0, .int v0)]) hx hb dX4_powerOfTen_14 hl (k := 2) rfl rfl (by decide) rfl (fun ls hl => ?_)
        refine lv_goto (tgt := 4) hx hb dX4_powerOfTen_17 (by decide) ?_
        exact ih_4 (v1 * (10 : Int32)) (v2 + 1) _ (lv_sub hl [2, 1, 0] rfl) hs
  exact hL_4 fu (1 : Int32) (0 : Int32) _ (lv_sub hl [2, 1, 0] rfl) hs
abbrev rm_X3_neverGoesDown : Room := { frames := 0, cells := 0, slots := 0, locals := 0 }
theorem hd_X3_neverGoesDown : yX3_neverGoesDown.cls ≠ "java/lang/invoke/MethodHandle" ∧ yX3_neverGoesDown.cls ≠ "java/lang/invoke/VarHandle" ∧ (parseMethodDescriptor yX3_neverGoesDown.desc).map (fun d => d.parameters.length) = some 1 := by decide +kernel
set_option maxHeartbeats 4000000 in
set_option maxRecDepth 100000 in
theorem k_X3_neverGoesDown (l : Launch) (v0 : Int32) (r0 : Int32) (hs : m_X3_neverGoesDown v0 = some r0) : Met l yX3_neverGoesDown (.code yX3_neverGoesDown cX3_neverGoesDown 3 (some .boolean) :: kG) rm_X3_neverGoesDown (fun v _ => v = ([.int v0] : List Value).toArray) (vp_Si (fun r => r = r0)) 0 0 (fun _ => False) := by
  refine kPi (own := RX3) (ty := .boolean) rfl (by decide) rfl ?_ (Nat.le_of_ble_eq_true rfl)
  intro p e s m args below meth c H Q CF hret ls hl
  obtain ⟨hx, hb, hml, hown, hts⟩ := id CF
  have hl : lv_has ls 3 [(0, .int v0)] := hl
  unfold m_X3_neverGoesDown at hs
  refine lv_iload_n hx hb dX3_neverGoesDown_0 rfl (lv_at hl 0 rfl) ?_
  refine lv_istore_n (lv' := [(1, .int v0), (0, .int v0)]) hx hb dX3_neverGoesDown_1 rfl hl (by decide) rfl (fun ls hl => ?_)
  refine lv_iconst (v := 1) hx hb dX3_neverGoesDown_2 (by decide) ?_
  refine lv_istore_n (lv' := [(2, .int (1 : Int32)), (1, .int v0), (0, .int v0)]) hx hb dX3_neverGoesDown_3 rfl hl (by decide) rfl (fun ls hl => ?_)
  have hL_4 : ∀ (n : Nat) (v1 : Int32) (v2 : Int32) (ls : Array Slot), lv_has ls 3 [(1, .int v1), (2, .int v2)] → L_X3_neverGoesDown_4 n v1 v2 = some r0 → W p l e rm_X3_neverGoesDown s m args below meth c H [] 0 0 Q (F0 m 4 ls []) := by
    intro n
    induction n with
    | zero =>
      intro v1 v2 ls hl hs
      replace hs : (none : Option (Int32)) = some r0 := hs
      cases hs
    | succ n_4 ih_4 =>
      intro v1 v2 ls hl hs
      replace hs : b_X3_neverGoesDown_4  (L_X3_neverGoesDown_4 n_4)  v1 v2 = some r0 := hs
      unfold b_X3_neverGoesDown_4 at hs
      refine lv_iload_n hx hb dX3_neverGoesDown_4 rfl (lv_at hl 1 rfl) ?_
      refine lv_iconst (v := 3) hx hb dX3_neverGoesDown_5 (by decide) ?_
      refine lv_icmp_ge (tgt := 36) hx hb dX3_neverGoesDown_6 (by decide) (fun c_1 => ?_) (fun c_1 => ?_)
      · replace hs := if_p c_1 hs
        refine lv_iconst (v := 1) hx hb dX3_neverGoesDown_36 (by decide) ?_
        cases hs
        exact hret _ _ rfl dX3_neverGoesDown_37
      · replace hs := if_n c_1 hs
        refine lv_iload_n hx hb dX3_neverGoesDown_9 rfl (lv_at hl 0 rfl) ?_
        refine lv_bipush (v := 10) hx hb dX3_neverGoesDown_10 (by decide) ?_
        refine lv_idiv hx hb dX3_neverGoesDown_12 (by decide) ?_
        refine lv_bipush (v := 10) hx hb dX3_neverGoesDown_13 (by decide) ?_
        refine lv_irem hx hb dX3_neverGoesDown_15 (by decide) ?_
        refine lv_iload_n hx hb dX3_neverGoesDown_16 rfl (lv_at hl 0 rfl) ?_
        refine lv_bipush (v := 10) hx hb dX3_neverGoesDown_17 (by decide) ?_
        refine lv_irem hx hb dX3_neverGoesDown_19 (by decide) ?_
        refine lv_icmp_le (tgt := 25) hx hb dX3_neverGoesDown_20 (by decide) (fun c_2 => ?_) (fun c_2 => ?_)
        · replace hs := if_p c_2 hs
          refine lv_iload_n hx hb dX3_neverGoesDown_25 rfl (lv_at hl 0 rfl) ?_
          refine lv_bipush (v := 10) hx hb dX3_neverGoesDown_26 (by decide) ?_
          refine lv_idiv hx hb dX3_neverGoesDown_28 (by decide) ?_
          refine lv_istore_n (lv' := [(1, .int (v1 / (10 : Int32))), (2, .int v2)]) hx hb dX3_neverGoesDown_29 rfl hl (by decide) rfl (fun ls hl => ?_)
          refine lv_iinc (v := (v2 + 1)) (lv' := [(2, .int (v2 + 1)), (1, .int (v1 / (10 : Int32)))]) hx hb dX3_neverGoesDown_30 hl (k := 1) rfl rfl (by decide) rfl (fun ls hl => ?_)
          refine lv_goto (tgt := 4) hx hb dX3_neverGoesDown_33 (by decide) ?_
          exact ih_4 (v1 / (10 : Int32)) (v2 + 1) _ (lv_sub hl [1, 0] rfl) hs
        · replace hs := if_n c_2 hs
          refine lv_iconst (v := 0) hx hb dX3_neverGoesDown_23 (by decide) ?_
          cases hs
          exact hret _ _ rfl dX3_neverGoesDown_24
  exact hL_4 fu v0 (1 : Int32) _ (lv_sub hl [1, 0] rfl) hs
abbrev rm_X4_turned : Room := { frames := 0, cells := 0, slots := 0, locals := 0 }
theorem hd_X4_turned : yX4_turned.cls ≠ "java/lang/invoke/MethodHandle" ∧ yX4_turned.cls ≠ "java/lang/invoke/VarHandle" ∧ (parseMethodDescriptor yX4_turned.desc).map (fun d => d.parameters.length) = some 2 := by decide +kernel
set_option maxHeartbeats 4000000 in
set_option maxRecDepth 100000 in
theorem k_X4_turned (l : Launch) (v0 : Int32) (v1 : Int32) (r0 : Int32) (hs : m_X4_turned v0 v1 = r0) : Met l yX4_turned (.code yX4_turned cX4_turned 2 (some .int) :: kG) rm_X4_turned (fun v _ => v = ([.int v0, .int v1] : List Value).toArray) (vp_Si (fun r => r = r0)) 0 0 (fun _ => False) := by
  refine kPi (own := RX4) (ty := .int) rfl (by decide) rfl ?_ (Nat.le_of_ble_eq_true rfl)
  intro p e s m args below meth c H Q CF hret ls hl
  obtain ⟨hx, hb, hml, hown, hts⟩ := id CF
  have hl : lv_has ls 2 [(0, .int v0), (1, .int v1)] := hl
  unfold m_X4_turned at hs
  refine lv_iload_n hx hb dX4_turned_0 rfl (lv_at hl 0 rfl) ?_
  refine lv_iload_n hx hb dX4_turned_1 rfl (lv_at hl 1 rfl) ?_
  refine lv_ishl hx hb dX4_turned_2 ?_
  refine lv_iload_n hx hb dX4_turned_3 rfl (lv_at hl 0 rfl) ?_
  refine lv_bipush (v := 12) hx hb dX4_turned_4 (by decide) ?_
  refine lv_iload_n hx hb dX4_turned_6 rfl (lv_at hl 1 rfl) ?_
  refine lv_isub hx hb dX4_turned_7 ?_
  refine lv_ishr hx hb dX4_turned_8 ?_
  refine lv_ior hx hb dX4_turned_9 ?_
  refine lv_sipush (v := 4095) hx hb dX4_turned_10 (by decide) ?_
  refine lv_iand hx hb dX4_turned_13 ?_
  cases hs
  exact hret _ _ (vp_nar_int _) dX4_turned_14
abbrev rm_X4_partsSeen : Room := { frames := 1, cells := 0, slots := 0, locals := 21 }
theorem hd_X4_partsSeen : yX4_partsSeen.cls ≠ "java/lang/invoke/MethodHandle" ∧ yX4_partsSeen.cls ≠ "java/lang/invoke/VarHandle" ∧ (parseMethodDescriptor yX4_partsSeen.desc).map (fun d => d.parameters.length) = some 2 := by decide +kernel
set_option maxHeartbeats 4000000 in
set_option maxRecDepth 100000 in
theorem k_X4_partsSeen (l : Launch) (v0 : Int32) (v1 : Int32) (r0 : Int32) (hs : m_X4_partsSeen v0 v1 = some r0) : Met l yX4_partsSeen (.code yX4_partsSeen cX4_partsSeen 4 (some .int) :: kG) rm_X4_partsSeen (fun v _ => v = ([.int v0, .int v1] : List Value).toArray) (vp_Si (fun r => r = r0)) 0 0 (fun _ => False) := by
  refine kPi (own := RX4) (ty := .int) rfl (by decide) rfl ?_ (Nat.le_of_ble_eq_true rfl)
  intro p e s m args below meth c H Q CF hret ls hl
  obtain ⟨hx, hb, hml, hown, hts⟩ := id CF
  have hl : lv_has ls 4 [(0, .int v0), (1, .int v1)] := hl
  unfold m_X4_partsSeen at hs
  refine lv_iload_n hx hb dX4_partsSeen_0 rfl (lv_at hl 0 rfl) ?_
  refine lv_istore_n (lv' := [(2, .int v0), (0, .int v0), (1, .int v1)]) hx hb dX4_partsSeen_1 rfl hl (by decide) rfl (fun ls hl => ?_)
  refine lv_iconst (v := 1) hx hb dX4_partsSeen_2 (by decide) ?_
  refine lv_istore_n (lv' := [(3, .int (1 : Int32)), (2, .int v0), (0, .int v0), (1, .int v1)]) hx hb dX4_partsSeen_3 rfl hl (by decide) rfl (fun ls hl => ?_)
  have hL_4 : ∀ (n : Nat) (v2 : Int32) (v3 : Int32) (ls : Array Slot), lv_has ls 4 [(0, .int v0), (1, .int v1), (2, .int v2), (3, .int v3)] → L_X4_partsSeen_4 v0 v1 n v2 v3 = some r0 → W p l e rm_X4_partsSeen s m args below meth c H [] 0 0 Q (F0 m 4 ls []) := by
    intro n
    induction n with
    | zero =>
      intro v2 v3 ls hl hs
      replace hs : (none : Option (Int32)) = some r0 := hs
      cases hs
    | succ n_4 ih_4 =>
      intro v2 v3 ls hl hs
      replace hs : b_X4_partsSeen_4  (L_X4_partsSeen_4 v0 v1 n_4) v0 v1 v2 v3 = some r0 := hs
      unfold b_X4_partsSeen_4 at hs
      refine lv_iload_n hx hb dX4_partsSeen_4 rfl (lv_at hl 3 rfl) ?_
      refine lv_iload_n hx hb dX4_partsSeen_5 rfl (lv_at hl 1 rfl) ?_
      refine lv_icmp_gt (tgt := 32) hx hb dX4_partsSeen_6 (by decide) (fun c_1 => ?_) (fun c_1 => ?_)
      · replace hs := if_p c_1 hs
        refine lv_iload_n hx hb dX4_partsSeen_32 rfl (lv_at hl 2 rfl) ?_
        cases hs
        exact hret _ _ (vp_nar_int _) dX4_partsSeen_33
      · replace hs := if_n c_1 hs
        refine lv_iload_n hx hb dX4_partsSeen_9 rfl (lv_at hl 2 rfl) ?_
        refine lv_iload_n hx hb dX4_partsSeen_10 rfl (lv_at hl 0 rfl) ?_
        refine lv_iload_n hx hb dX4_partsSeen_11 rfl (lv_at hl 3 rfl) ?_
        refine kpi (va_runS (As := [.int v0, .int v3]) (rest := [.int v2]) ⟨hx, hb, hml, hown, hts⟩ (k_X4_turned l v0 v3 _ rfl) (va_cwS 2 hts (kGood (kgS mG_255 mG_256 mG_13 mG_253)) rfl rfl rfl hd_X4_turned ⟨Nat.le_of_ble_eq_true rfl, Nat.le_of_ble_eq_true rfl⟩) preEq rfl rfl hl.1 rfl (lv_room (Nat.le_of_ble_eq_true rfl)) dX4_partsSeen_12 ⟨Nat.zero_le _, Nat.zero_le _⟩) ?_
        refine lv_iload_n hx hb dX4_partsSeen_15 rfl (lv_at hl 0 rfl) ?_
        refine lv_bipush (v := 12) hx hb dX4_partsSeen_16 (by decide) ?_
        refine lv_iload_n hx hb dX4_partsSeen_18 rfl (lv_at hl 3 rfl) ?_
        refine lv_isub hx hb dX4_partsSeen_19 ?_
        refine kpi (va_runS (As := [.int v0, .int ((12 : Int32) - v3)]) (rest := [.int (m_X4_turned v0 v3), .int v2]) ⟨hx, hb, hml, hown, hts⟩ (k_X4_turned l v0 ((12 : Int32) - v3) _ rfl) (va_cwS 2 hts (kGood (kgS mG_255 mG_256 mG_13 mG_253)) rfl rfl rfl hd_X4_turned ⟨Nat.le_of_ble_eq_true rfl, Nat.le_of_ble_eq_true rfl⟩) preEq rfl rfl hl.1 rfl (lv_room (Nat.le_of_ble_eq_true rfl)) dX4_partsSeen_20 ⟨Nat.zero_le _, Nat.zero_le _⟩) ?_
        refine lv_ior hx hb dX4_partsSeen_23 ?_
        refine lv_ior hx hb dX4_partsSeen_24 ?_
        refine lv_topi (fun w_2 ew_2 => ?_)
        replace hs := bnd_e ew_2 hs
        refine lv_istore_n (lv' := [(2, .int w_2), (0, .int v0), (1, .int v1), (3, .int v3)]) hx hb dX4_partsSeen_25 rfl hl (by decide) rfl (fun ls hl => ?_)
        refine lv_iinc (v := (v3 + 1)) (lv' := [(3, .int (v3 + 1)), (2, .int w_2), (0, .int v0), (1, .int v1)]) hx hb dX4_partsSeen_26 hl (k := 3) rfl rfl (by decide) rfl (fun ls hl => ?_)
        refine lv_goto (tgt := 4) hx hb dX4_partsSeen_29 (by decide) ?_
        exact ih_4 w_2 (v3 + 1) _ (lv_sub hl [2, 3, 1, 0] rfl) hs
  exact hL_4 fu v0 (1 : Int32) _ (lv_sub hl [2, 3, 1, 0] rfl) hs
abbrev rm_X4_fewestWatchers : Room := { frames := 2, cells := 0, slots := 0, locals := 44 }
theorem hd_X4_fewestWatchers : yX4_fewestWatchers.cls ≠ "java/lang/invoke/MethodHandle" ∧ yX4_fewestWatchers.cls ≠ "java/lang/invoke/VarHandle" ∧ (parseMethodDescriptor yX4_fewestWatchers.desc).map (fun d => d.parameters.length) = some 2 := by decide +kernel
set_option maxHeartbeats 4000000 in
set_option maxRecDepth 100000 in
theorem k_X4_fewestWatchers (l : Launch) (v0 : Int32) (v1 : Int32) (r0 : Int32) (hs : m_X4_fewestWatchers v0 v1 = some r0) : Met l yX4_fewestWatchers (.code yX4_fewestWatchers cX4_fewestWatchers 6 (some .int) :: kG) rm_X4_fewestWatchers (fun v _ => v = ([.int v0, .int v1] : List Value).toArray) (vp_Si (fun r => r = r0)) 0 0 (fun _ => False) := by
  refine kPi (own := RX4) (ty := .int) rfl (by decide) rfl ?_ (Nat.le_of_ble_eq_true rfl)
  intro p e s m args below meth c H Q CF hret ls hl
  obtain ⟨hx, hb, hml, hown, hts⟩ := id CF
  have hl : lv_has ls 6 [(0, .int v0), (1, .int v1)] := hl
  unfold m_X4_fewestWatchers at hs
  refine lv_sipush (v := 4095) hx hb dX4_fewestWatchers_0 (by decide) ?_
  refine lv_istore_n (lv' := [(2, .int (4095 : Int32)), (0, .int v0), (1, .int v1)]) hx hb dX4_fewestWatchers_3 rfl hl (by decide) rfl (fun ls hl => ?_)
  refine lv_bipush (v := 12) hx hb dX4_fewestWatchers_4 (by decide) ?_
  refine lv_istore_n (lv' := [(3, .int (12 : Int32)), (2, .int (4095 : Int32)), (0, .int v0), (1, .int v1)]) hx hb dX4_fewestWatchers_6 rfl hl (by decide) rfl (fun ls hl => ?_)
  refine lv_iconst (v := 0) hx hb dX4_fewestWatchers_7 (by decide) ?_
  refine lv_istore (lv' := [(4, .int (0 : Int32)), (3, .int (12 : Int32)), (2, .int (4095 : Int32)), (0, .int v0), (1, .int v1)]) hx hb dX4_fewestWatchers_8 hl (by decide) rfl (fun ls hl => ?_)
  have hL_10 : ∀ (n : Nat) (v2 : Int32) (v3 : Int32) (v4 : Int32) (ls : Array Slot), lv_has ls 6 [(0, .int v0), (1, .int v1), (2, .int v2), (3, .int v3), (4, .int v4)] → L_X4_fewestWatchers_10 v0 v1 n v2 v3 v4 = some r0 → W p l e rm_X4_fewestWatchers s m args below meth c H [] 0 0 Q (F0 m 10 ls []) := by
    intro n
    induction n with
    | zero =>
      intro v2 v3 v4 ls hl hs
      replace hs : (none : Option (Int32)) = some r0 := hs
      cases hs
    | succ n_10 ih_10 =>
      intro v2 v3 v4 ls hl hs
      replace hs : b_X4_fewestWatchers_10  (L_X4_fewestWatchers_10 v0 v1 n_10) v0 v1 v2 v3 v4 = some r0 := hs
      unfold b_X4_fewestWatchers_10 at hs
      refine lv_iload hx hb dX4_fewestWatchers_10 (lv_at hl 4 rfl) ?_
      refine lv_sipush (v := 4095) hx hb dX4_fewestWatchers_12 (by decide) ?_
      refine lv_icmp_ge (tgt := 56) hx hb dX4_fewestWatchers_15 (by decide) (fun c_1 => ?_) (fun c_1 => ?_)
      · replace hs := if_p c_1 hs
        refine lv_iload_n hx hb dX4_fewestWatchers_56 rfl (lv_at hl 2 rfl) ?_
        cases hs
        exact hret _ _ (vp_nar_int _) dX4_fewestWatchers_57
      · replace hs := if_n c_1 hs
        refine lv_iload hx hb dX4_fewestWatchers_18 (lv_at hl 4 rfl) ?_
        refine kpi (va_runS (As := [.int v4]) (rest := []) ⟨hx, hb, hml, hown, hts⟩ (k_J6_bitCount_0f7a4 l v4 _ rfl) (va_cwS 1 hts (kGood (kgS mG_191 mG_58 mG_59 mG_52)) rfl rfl rfl hd_J6_bitCount_0f7a4 ⟨Nat.le_of_ble_eq_true rfl, Nat.le_of_ble_eq_true rfl⟩) preEq rfl rfl hl.1 rfl (lv_room (Nat.le_of_ble_eq_true rfl)) dX4_fewestWatchers_20 ⟨Nat.zero_le _, Nat.zero_le _⟩) ?_
        refine lv_istore (lv' := [(5, .int (m_J6_bitCount_0f7a4 v4)), (0, .int v0), (1, .int v1), (2, .int v2), (3, .int v3), (4, .int v4)]) hx hb dX4_fewestWatchers_23 hl (by decide) rfl (fun ls hl => ?_)
        refine lv_iload hx hb dX4_fewestWatchers_25 (lv_at hl 0 rfl) ?_
        refine lv_iload_n hx hb dX4_fewestWatchers_27 rfl (lv_at hl 4 rfl) ?_
        refine lv_icmp_ge (tgt := 50) hx hb dX4_fewestWatchers_28 (by decide) (fun c_2 => ?_) (fun c_2 => ?_)
        · replace hs := if_p c_2 hs
          refine lv_iinc (v := (v4 + 1)) (lv' := [(4, .int (v4 + 1)), (5, .int (m_J6_bitCount_0f7a4 v4)), (0, .int v0), (1, .int v1), (2, .int v2), (3, .int v3)]) hx hb dX4_fewestWatchers_50 hl (k := 5) rfl rfl (by decide) rfl (fun ls hl => ?_)
          refine lv_goto (tgt := 10) hx hb dX4_fewestWatchers_53 (by decide) ?_
          exact ih_10 v2 v3 (v4 + 1) _ (lv_sub hl [2, 3, 4, 5, 0] rfl) hs
        · replace hs := if_n c_2 hs
          refine lv_iload_n hx hb dX4_fewestWatchers_31 rfl (lv_at hl 1 rfl) ?_
          refine lv_iload hx hb dX4_fewestWatchers_32 (lv_at hl 5 rfl) ?_
          refine lv_iload_n hx hb dX4_fewestWatchers_34 rfl (lv_at hl 2 rfl) ?_
          obtain ⟨r_3, hc_4, hs⟩ := ob1_e hs
          refine kpi (va_runS (As := [.int v4, .int v1]) (rest := [.int v0]) ⟨hx, hb, hml, hown, hts⟩ (k_X4_partsSeen l v4 v1 r_3 hc_4) (va_cwS 2 hts (kGood (kgS mG_258 mG_259 mG_13 mG_254)) rfl rfl rfl hd_X4_partsSeen ⟨Nat.le_of_ble_eq_true rfl, Nat.le_of_ble_eq_true rfl⟩) preEq rfl rfl hl.1 rfl (lv_room (Nat.le_of_ble_eq_true rfl)) dX4_fewestWatchers_35 ⟨Nat.zero_le _, Nat.zero_le _⟩) ?_
          refine lv_iconst (v := -1) hx hb dX4_fewestWatchers_38 (by decide) ?_
          refine lv_ixor hx hb dX4_fewestWatchers_39 ?_
          refine lv_iand hx hb dX4_fewestWatchers_40 ?_
          refine lv_if_ne (tgt := 50) hx hb dX4_fewestWatchers_41 (by decide) (fun c_5 => ?_) (fun c_5 => ?_)
          · replace hs := if_n c_5 hs
            refine lv_iinc (v := (v4 + 1)) (lv' := [(4, .int (v4 + 1)), (5, .int (m_J6_bitCount_0f7a4 v4)), (0, .int v0), (1, .int v1), (2, .int v2), (3, .int v3)]) hx hb dX4_fewestWatchers_50 hl (k := 5) rfl rfl (by decide) rfl (fun ls hl => ?_)
            refine lv_goto (tgt := 10) hx hb dX4_fewestWatchers_53 (by decide) ?_
            exact ih_10 v2 v3 (v4 + 1) _ (lv_sub hl [2, 3, 4, 5, 0] rfl) hs
          · replace hs := if_p c_5 hs
            refine lv_iload hx hb dX4_fewestWatchers_44 (lv_at hl 5 rfl) ?_
            refine lv_istore_n (lv' := [(2, .int v4), (5, .int (m_J6_bitCount_0f7a4 v4)), (0, .int v0), (1, .int v1), (3, .int v3), (4, .int v4)]) hx hb dX4_fewestWatchers_46 rfl hl (by decide) rfl (fun ls hl => ?_)
            refine lv_iload hx hb dX4_fewestWatchers_47 (lv_at hl 1 rfl) ?_
            refine lv_istore_n (lv' := [(3, .int (m_J6_bitCount_0f7a4 v4)), (2, .int v4), (5, .int (m_J6_bitCount_0f7a4 v4)), (0, .int v0), (1, .int v1), (4, .int v4)]) hx hb dX4_fewestWatchers_49 rfl hl (by decide) rfl (fun ls hl => ?_)
            refine lv_iinc (v := (v4 + 1)) (lv' := [(4, .int (v4 + 1)), (3, .int (m_J6_bitCount_0f7a4 v4)), (2, .int v4), (5, .int (m_J6_bitCount_0f7a4 v4)), (0, .int v0), (1, .int v1)]) hx hb dX4_fewestWatchers_50 hl (k := 5) rfl rfl (by decide) rfl (fun ls hl => ?_)
            refine lv_goto (tgt := 10) hx hb dX4_fewestWatchers_53 (by decide) ?_
            exact ih_10 v4 (m_J6_bitCount_0f7a4 v4) (v4 + 1) _ (lv_sub hl [4, 5, 2, 1, 0] rfl) hs
  exact hL_10 fu (4095 : Int32) (12 : Int32) (0 : Int32) _ (lv_sub hl [3, 4, 2, 1, 0] rfl) hs
abbrev rm_X4_tonesAnswering : Room := { frames := 1, cells := 0, slots := 0, locals := 22 }
theorem hd_X4_tonesAnswering : yX4_tonesAnswering.cls ≠ "java/lang/invoke/MethodHandle" ∧ yX4_tonesAnswering.cls ≠ "java/lang/invoke/VarHandle" ∧ (parseMethodDescriptor yX4_tonesAnswering.desc).map (fun d => d.parameters.length) = some 2 := by decide +kernel
set_option maxHeartbeats 4000000 in
set_option maxRecDepth 100000 in
theorem k_X4_tonesAnswering (l : Launch) (v0 : Int32) (v1 : Int32) (r0 : Int32) (hs : m_X4_tonesAnswering v0 v1 = some r0) : Met l yX4_tonesAnswering (.code yX4_tonesAnswering cX4_tonesAnswering 4 (some .int) :: kG) rm_X4_tonesAnswering (fun v _ => v = ([.int v0, .int v1] : List Value).toArray) (vp_Si (fun r => r = r0)) 0 0 (fun _ => False) := by
  refine kPi (own := RX4) (ty := .int) rfl (by decide) rfl ?_ (Nat.le_of_ble_eq_true rfl)
  intro p e s m args below meth c H Q CF hret ls hl
  obtain ⟨hx, hb, hml, hown, hts⟩ := id CF
  have hl : lv_has ls 4 [(0, .int v0), (1, .int v1)] := hl
  unfold m_X4_tonesAnswering at hs
  refine lv_iconst (v := 0) hx hb dX4_tonesAnswering_0 (by decide) ?_
  refine lv_istore_n (lv' := [(2, .int (0 : Int32)), (0, .int v0), (1, .int v1)]) hx hb dX4_tonesAnswering_1 rfl hl (by decide) rfl (fun ls hl => ?_)
  refine lv_iconst (v := 0) hx hb dX4_tonesAnswering_2 (by decide) ?_
  refine lv_istore_n (lv' := [(3, .int (0 : Int32)), (2, .int (0 : Int32)), (0, .int v0), (1, .int v1)]) hx hb dX4_tonesAnswering_3 rfl hl (by decide) rfl (fun ls hl => ?_)
  have hL_4 : ∀ (n : Nat) (v2 : Int32) (v3 : Int32) (ls : Array Slot), lv_has ls 4 [(0, .int v0), (1, .int v1), (2, .int v2), (3, .int v3)] → L_X4_tonesAnswering_4 v0 v1 n v2 v3 = some r0 → W p l e rm_X4_tonesAnswering s m args below meth c H [] 0 0 Q (F0 m 4 ls []) := by
    intro n
    induction n with
    | zero =>
      intro v2 v3 ls hl hs
      replace hs : (none : Option (Int32)) = some r0 := hs
      cases hs
    | succ n_4 ih_4 =>
      intro v2 v3 ls hl hs
      replace hs : b_X4_tonesAnswering_4  (L_X4_tonesAnswering_4 v0 v1 n_4) v0 v1 v2 v3 = some r0 := hs
      unfold b_X4_tonesAnswering_4 at hs
      refine lv_iload_n hx hb dX4_tonesAnswering_4 rfl (lv_at hl 3 rfl) ?_
      refine lv_bipush (v := 10) hx hb dX4_tonesAnswering_5 (by decide) ?_
      refine lv_icmp_ge (tgt := 31) hx hb dX4_tonesAnswering_7 (by decide) (fun c_1 => ?_) (fun c_1 => ?_)
      · replace hs := if_p c_1 hs
        refine lv_iload_n hx hb dX4_tonesAnswering_31 rfl (lv_at hl 2 rfl) ?_
        cases hs
        exact hret _ _ (vp_nar_int _) dX4_tonesAnswering_32
      · replace hs := if_n c_1 hs
        refine lv_iload_n hx hb dX4_tonesAnswering_10 rfl (lv_at hl 0 rfl) ?_
        refine lv_iload_n hx hb dX4_tonesAnswering_11 rfl (lv_at hl 3 rfl) ?_
        refine kpi (va_runS (As := [.int v0, .int v3]) (rest := []) ⟨hx, hb, hml, hown, hts⟩ (k_X4_echo l v0 v3 _ rfl) (va_cwS 2 hts (kGood (kgS mG_264 mG_90 mG_13 mG_81)) rfl rfl rfl hd_X4_echo ⟨Nat.le_of_ble_eq_true rfl, Nat.le_of_ble_eq_true rfl⟩) preEq rfl rfl hl.1 rfl (lv_room (Nat.le_of_ble_eq_true rfl)) dX4_tonesAnswering_12 ⟨Nat.zero_le _, Nat.zero_le _⟩) ?_
        refine lv_iload_n hx hb dX4_tonesAnswering_15 rfl (lv_at hl 1 rfl) ?_
        refine lv_icmp_ne (tgt := 25) hx hb dX4_tonesAnswering_16 (by decide) (fun c_2 => ?_) (fun c_2 => ?_)
        · replace hs := if_n c_2 hs
          refine lv_iinc (v := (v3 + 1)) (lv' := [(3, .int (v3 + 1)), (0, .int v0), (1, .int v1), (2, .int v2)]) hx hb dX4_tonesAnswering_25 hl (k := 3) rfl rfl (by decide) rfl (fun ls hl => ?_)
          refine lv_goto (tgt := 4) hx hb dX4_tonesAnswering_28 (by decide) ?_
          exact ih_4 v2 (v3 + 1) _ (lv_sub hl [1, 2, 3, 0] rfl) hs
        · replace hs := if_p c_2 hs
          refine lv_iload_n hx hb dX4_tonesAnswering_19 rfl (lv_at hl 2 rfl) ?_
          refine lv_iconst (v := 1) hx hb dX4_tonesAnswering_20 (by decide) ?_
          refine lv_iload_n hx hb dX4_tonesAnswering_21 rfl (lv_at hl 3 rfl) ?_
          refine lv_ishl hx hb dX4_tonesAnswering_22 ?_
          refine lv_ior hx hb dX4_tonesAnswering_23 ?_
          refine lv_istore_n (lv' := [(2, .int (v2 ||| ((1 : Int32) <<< (v3 &&& 31)))), (0, .int v0), (1, .int v1), (3, .int v3)]) hx hb dX4_tonesAnswering_24 rfl hl (by decide) rfl (fun ls hl => ?_)
          refine lv_iinc (v := (v3 + 1)) (lv' := [(3, .int (v3 + 1)), (2, .int (v2 ||| ((1 : Int32) <<< (v3 &&& 31)))), (0, .int v0), (1, .int v1)]) hx hb dX4_tonesAnswering_25 hl (k := 3) rfl rfl (by decide) rfl (fun ls hl => ?_)
          refine lv_goto (tgt := 4) hx hb dX4_tonesAnswering_28 (by decide) ?_
          exact ih_4 (v2 ||| ((1 : Int32) <<< (v3 &&& 31))) (v3 + 1) _ (lv_sub hl [2, 3, 1, 0] rfl) hs
  exact hL_4 fu (0 : Int32) (0 : Int32) _ (lv_sub hl [2, 3, 1, 0] rfl) hs
abbrev rm_X4_mostLeft : Room := { frames := 2, cells := 0, slots := 0, locals := 45 }
theorem hd_X4_mostLeft : yX4_mostLeft.cls ≠ "java/lang/invoke/MethodHandle" ∧ yX4_mostLeft.cls ≠ "java/lang/invoke/VarHandle" ∧ (parseMethodDescriptor yX4_mostLeft.desc).map (fun d => d.parameters.length) = some 2 := by decide +kernel
set_option maxHeartbeats 4000000 in
set_option maxRecDepth 100000 in
theorem k_X4_mostLeft (l : Launch) (v0 : Int32) (v1 : Int32) (r0 : Int32) (hs : m_X4_mostLeft v0 v1 = some r0) : Met l yX4_mostLeft (.code yX4_mostLeft cX4_mostLeft 4 (some .int) :: kG) rm_X4_mostLeft (fun v _ => v = ([.int v0, .int v1] : List Value).toArray) (vp_Si (fun r => r = r0)) 0 0 (fun _ => False) := by
  refine kPi (own := RX4) (ty := .int) rfl (by decide) rfl ?_ (Nat.le_of_ble_eq_true rfl)
  intro p e s m args below meth c H Q CF hret ls hl
  obtain ⟨hx, hb, hml, hown, hts⟩ := id CF
  have hl : lv_has ls 4 [(0, .int v0), (1, .int v1)] := hl
  unfold m_X4_mostLeft at hs
  refine lv_iconst (v := 0) hx hb dX4_mostLeft_0 (by decide) ?_
  refine lv_istore_n (lv' := [(2, .int (0 : Int32)), (0, .int v0), (1, .int v1)]) hx hb dX4_mostLeft_1 rfl hl (by decide) rfl (fun ls hl => ?_)
  refine lv_iconst (v := 0) hx hb dX4_mostLeft_2 (by decide) ?_
  refine lv_istore_n (lv' := [(3, .int (0 : Int32)), (2, .int (0 : Int32)), (0, .int v0), (1, .int v1)]) hx hb dX4_mostLeft_3 rfl hl (by decide) rfl (fun ls hl => ?_)
  have hL_4 : ∀ (n : Nat) (v2 : Int32) (v3 : Int32) (ls : Array Slot), lv_has ls 4 [(0, .int v0), (1, .int v1), (2, .int v2), (3, .int v3)] → L_X4_mostLeft_4 v0 v1 n v2 v3 = some r0 → W p l e rm_X4_mostLeft s m args below meth c H [] 0 0 Q (F0 m 4 ls []) := by
    intro n
    induction n with
    | zero =>
      intro v2 v3 ls hl hs
      replace hs : (none : Option (Int32)) = some r0 := hs
      cases hs
    | succ n_4 ih_4 =>
      intro v2 v3 ls hl hs
      replace hs : b_X4_mostLeft_4  (L_X4_mostLeft_4 v0 v1 n_4) v0 v1 v2 v3 = some r0 := hs
      unfold b_X4_mostLeft_4 at hs
      refine lv_iload_n hx hb dX4_mostLeft_4 rfl (lv_at hl 3 rfl) ?_
      refine lv_iconst (v := 2) hx hb dX4_mostLeft_5 (by decide) ?_
      refine lv_icmp_gt (tgt := 30) hx hb dX4_mostLeft_6 (by decide) (fun c_1 => ?_) (fun c_1 => ?_)
      · replace hs := if_p c_1 hs
        refine lv_iload_n hx hb dX4_mostLeft_30 rfl (lv_at hl 2 rfl) ?_
        cases hs
        exact hret _ _ (vp_nar_int _) dX4_mostLeft_31
      · replace hs := if_n c_1 hs
        refine lv_iload_n hx hb dX4_mostLeft_9 rfl (lv_at hl 2 rfl) ?_
        refine lv_iload_n hx hb dX4_mostLeft_10 rfl (lv_at hl 0 rfl) ?_
        refine lv_iload_n hx hb dX4_mostLeft_11 rfl (lv_at hl 1 rfl) ?_
        refine lv_iload_n hx hb dX4_mostLeft_12 rfl (lv_at hl 3 rfl) ?_
        obtain ⟨r_2, hc_3, hs⟩ := ob1_e hs
        refine kpi (va_runS (As := [.int v1, .int v3]) (rest := [.int v0, .int v2]) ⟨hx, hb, hml, hown, hts⟩ (k_X4_tonesAnswering l v1 v3 r_2 hc_3) (va_cwS 2 hts (kGood (kgS mG_268 mG_269 mG_13 mG_263)) rfl rfl rfl hd_X4_tonesAnswering ⟨Nat.le_of_ble_eq_true rfl, Nat.le_of_ble_eq_true rfl⟩) preEq rfl rfl hl.1 rfl (lv_room (Nat.le_of_ble_eq_true rfl)) dX4_mostLeft_13 ⟨Nat.zero_le _, Nat.zero_le _⟩) ?_
        refine lv_iand hx hb dX4_mostLeft_16 ?_
        refine kpi (va_runS (As := [.int (v0 &&& r_2)]) (rest := [.int v2]) ⟨hx, hb, hml, hown, hts⟩ (k_J6_bitCount_0f7a4 l (v0 &&& r_2) _ rfl) (va_cwS 1 hts (kGood (kgS mG_191 mG_58 mG_59 mG_52)) rfl rfl rfl hd_J6_bitCount_0f7a4 ⟨Nat.le_of_ble_eq_true rfl, Nat.le_of_ble_eq_true rfl⟩) preEq rfl rfl hl.1 rfl (lv_room (Nat.le_of_ble_eq_true rfl)) dX4_mostLeft_17 ⟨Nat.zero_le _, Nat.zero_le _⟩) ?_
        refine va_mmax hx hb (by rw [hml]; exact hl.1.symm) hown (hts _ (kg1 mG_273)) (hts _ (kg1 mG_84)) (hts _ (kg1 mG_85)) (hts _ (kg1 mG_86)) (Nat.le_of_ble_eq_true rfl) (Nat.le_of_ble_eq_true rfl) (Nat.zero_le _) (Nat.zero_le _) dX4_mostLeft_20 ?_
        refine lv_istore_n (lv' := [(2, .int (imax v2 (m_J6_bitCount_0f7a4 (v0 &&& r_2)))), (0, .int v0), (1, .int v1), (3, .int v3)]) hx hb dX4_mostLeft_23 rfl hl (by decide) rfl (fun ls hl => ?_)
        refine lv_iinc (v := (v3 + 1)) (lv' := [(3, .int (v3 + 1)), (2, .int (imax v2 (m_J6_bitCount_0f7a4 (v0 &&& r_2)))), (0, .int v0), (1, .int v1)]) hx hb dX4_mostLeft_24 hl (k := 3) rfl rfl (by decide) rfl (fun ls hl => ?_)
        refine lv_goto (tgt := 4) hx hb dX4_mostLeft_27 (by decide) ?_
        exact ih_4 (imax v2 (m_J6_bitCount_0f7a4 (v0 &&& r_2))) (v3 + 1) _ (lv_sub hl [2, 3, 1, 0] rfl) hs
  exact hL_4 fu (0 : Int32) (0 : Int32) _ (lv_sub hl [2, 3, 1, 0] rfl) hs
abbrev rm_X4_bestHornToAsk : Room := { frames := 3, cells := 0, slots := 0, locals := 68 }
theorem hd_X4_bestHornToAsk : yX4_bestHornToAsk.cls ≠ "java/lang/invoke/MethodHandle" ∧ yX4_bestHornToAsk.cls ≠ "java/lang/invoke/VarHandle" ∧ (parseMethodDescriptor yX4_bestHornToAsk.desc).map (fun d => d.parameters.length) = some 1 := by decide +kernel
set_option maxHeartbeats 4000000 in
set_option maxRecDepth 100000 in
theorem k_X4_bestHornToAsk (l : Launch) (v0 : Int32) (r0 : Int32) (hs : m_X4_bestHornToAsk v0 = some r0) : Met l yX4_bestHornToAsk (.code yX4_bestHornToAsk cX4_bestHornToAsk 5 (some .int) :: kG) rm_X4_bestHornToAsk (fun v _ => v = ([.int v0] : List Value).toArray) (vp_Si (fun r => r = r0)) 0 0 (fun _ => False) := by
  refine kPi (own := RX4) (ty := .int) rfl (by decide) rfl ?_ (Nat.le_of_ble_eq_true rfl)
  intro p e s m args below meth c H Q CF hret ls hl
  obtain ⟨hx, hb, hml, hown, hts⟩ := id CF
  have hl : lv_has ls 5 [(0, .int v0)] := hl
  unfold m_X4_bestHornToAsk at hs
  refine lv_iconst (v := 0) hx hb dX4_bestHornToAsk_0 (by decide) ?_
  refine lv_istore_n (lv' := [(1, .int (0 : Int32)), (0, .int v0)]) hx hb dX4_bestHornToAsk_1 rfl hl (by decide) rfl (fun ls hl => ?_)
  refine lv_iload_n hx hb dX4_bestHornToAsk_2 rfl (lv_at hl 1 rfl) ?_
  refine lv_iconst (v := 0) hx hb dX4_bestHornToAsk_3 (by decide) ?_
  obtain ⟨r_1, hc_2, hs⟩ := ob1_e hs
  refine kpi (va_runS (As := [.int v0, .int (0 : Int32)]) (rest := []) ⟨hx, hb, hml, hown, hts⟩ (k_X4_mostLeft l v0 (0 : Int32) r_1 hc_2) (va_cwS 2 hts (kGood (kgS mG_275 mG_276 mG_13 mG_272)) rfl rfl rfl hd_X4_mostLeft ⟨Nat.le_of_ble_eq_true rfl, Nat.le_of_ble_eq_true rfl⟩) preEq rfl rfl hl.1 rfl (lv_room (Nat.le_of_ble_eq_true rfl)) dX4_bestHornToAsk_4 ⟨Nat.zero_le _, Nat.zero_le _⟩) ?_
  refine lv_istore_n (lv' := [(2, .int r_1), (1, .int (0 : Int32)), (0, .int v0)]) hx hb dX4_bestHornToAsk_7 rfl hl (by decide) rfl (fun ls hl => ?_)
  refine lv_iconst (v := 1) hx hb dX4_bestHornToAsk_8 (by decide) ?_
  refine lv_istore_n (lv' := [(3, .int (1 : Int32)), (2, .int r_1), (1, .int (0 : Int32)), (0, .int v0)]) hx hb dX4_bestHornToAsk_9 rfl hl (by decide) rfl (fun ls hl => ?_)
  have hL_10 : ∀ (n : Nat) (v1 : Int32) (v2 : Int32) (v3 : Int32) (ls : Array Slot), lv_has ls 5 [(0, .int v0), (1, .int v1), (2, .int v2), (3, .int v3)] → L_X4_bestHornToAsk_10 v0 n v1 v2 v3 = some r0 → W p l e rm_X4_bestHornToAsk s m args below meth c H [] 0 0 Q (F0 m 10 ls []) := by
    intro n
    induction n with
    | zero =>
      intro v1 v2 v3 ls hl hs
      replace hs : (none : Option (Int32)) = some r0 := hs
      cases hs
    | succ n_10 ih_10 =>
      intro v1 v2 v3 ls hl hs
      replace hs : b_X4_bestHornToAsk_10  (L_X4_bestHornToAsk_10 v0 n_10) v0 v1 v2 v3 = some r0 := hs
      unfold b_X4_bestHornToAsk_10 at hs
      refine lv_iload_n hx hb dX4_bestHornToAsk_10 rfl (lv_at hl 3 rfl) ?_
      refine lv_bipush (v := 10) hx hb dX4_bestHornToAsk_11 (by decide) ?_
      refine lv_icmp_ge (tgt := 40) hx hb dX4_bestHornToAsk_13 (by decide) (fun c_3 => ?_) (fun c_3 => ?_)
      · replace hs := if_p c_3 hs
        refine lv_iload_n hx hb dX4_bestHornToAsk_40 rfl (lv_at hl 1 rfl) ?_
        cases hs
        exact hret _ _ (vp_nar_int _) dX4_bestHornToAsk_41
      · replace hs := if_n c_3 hs
        refine lv_iload_n hx hb dX4_bestHornToAsk_16 rfl (lv_at hl 0 rfl) ?_
        refine lv_iload_n hx hb dX4_bestHornToAsk_17 rfl (lv_at hl 3 rfl) ?_
        obtain ⟨r_4, hc_5, hs⟩ := ob1_e hs
        refine kpi (va_runS (As := [.int v0, .int v3]) (rest := []) ⟨hx, hb, hml, hown, hts⟩ (k_X4_mostLeft l v0 v3 r_4 hc_5) (va_cwS 2 hts (kGood (kgS mG_275 mG_276 mG_13 mG_272)) rfl rfl rfl hd_X4_mostLeft ⟨Nat.le_of_ble_eq_true rfl, Nat.le_of_ble_eq_true rfl⟩) preEq rfl rfl hl.1 rfl (lv_room (Nat.le_of_ble_eq_true rfl)) dX4_bestHornToAsk_18 ⟨Nat.zero_le _, Nat.zero_le _⟩) ?_
        refine lv_istore (lv' := [(4, .int r_4), (0, .int v0), (1, .int v1), (2, .int v2), (3, .int v3)]) hx hb dX4_bestHornToAsk_21 hl (by decide) rfl (fun ls hl => ?_)
        refine lv_iload hx hb dX4_bestHornToAsk_23 (lv_at hl 0 rfl) ?_
        refine lv_iload_n hx hb dX4_bestHornToAsk_25 rfl (lv_at hl 3 rfl) ?_
        refine lv_icmp_ge (tgt := 34) hx hb dX4_bestHornToAsk_26 (by decide) (fun c_6 => ?_) (fun c_6 => ?_)
        · replace hs := if_p c_6 hs
          refine lv_iinc (v := (v3 + 1)) (lv' := [(3, .int (v3 + 1)), (4, .int r_4), (0, .int v0), (1, .int v1), (2, .int v2)]) hx hb dX4_bestHornToAsk_34 hl (k := 4) rfl rfl (by decide) rfl (fun ls hl => ?_)
          refine lv_goto (tgt := 10) hx hb dX4_bestHornToAsk_37 (by decide) ?_
          exact ih_10 v1 v2 (v3 + 1) _ (lv_sub hl [2, 3, 4, 0] rfl) hs
        · replace hs := if_n c_6 hs
          refine lv_iload_n hx hb dX4_bestHornToAsk_29 rfl (lv_at hl 4 rfl) ?_
          refine lv_istore_n (lv' := [(1, .int v3), (4, .int r_4), (0, .int v0), (2, .int v2), (3, .int v3)]) hx hb dX4_bestHornToAsk_30 rfl hl (by decide) rfl (fun ls hl => ?_)
          refine lv_iload hx hb dX4_bestHornToAsk_31 (lv_at hl 1 rfl) ?_
          refine lv_istore_n (lv' := [(2, .int r_4), (1, .int v3), (4, .int r_4), (0, .int v0), (3, .int v3)]) hx hb dX4_bestHornToAsk_33 rfl hl (by decide) rfl (fun ls hl => ?_)
          refine lv_iinc (v := (v3 + 1)) (lv' := [(3, .int (v3 + 1)), (2, .int r_4), (1, .int v3), (4, .int r_4), (0, .int v0)]) hx hb dX4_bestHornToAsk_34 hl (k := 4) rfl rfl (by decide) rfl (fun ls hl => ?_)
          refine lv_goto (tgt := 10) hx hb dX4_bestHornToAsk_37 (by decide) ?_
          exact ih_10 v3 r_4 (v3 + 1) _ (lv_sub hl [4, 2, 1, 0] rfl) hs
  exact hL_10 fu (0 : Int32) r_1 (1 : Int32) _ (lv_sub hl [3, 2, 1, 0] rfl) hs
abbrev rm_X4_keptInTheMean : Room := { frames := 1, cells := 0, slots := 0, locals := 15 }
theorem hd_X4_keptInTheMean : yX4_keptInTheMean.cls ≠ "java/lang/invoke/MethodHandle" ∧ yX4_keptInTheMean.cls ≠ "java/lang/invoke/VarHandle" ∧ (parseMethodDescriptor yX4_keptInTheMean.desc).map (fun d => d.parameters.length) = some 2 := by decide +kernel
set_option maxHeartbeats 4000000 in
set_option maxRecDepth 100000 in
theorem k_X4_keptInTheMean (l : Launch) (v0 : Int32) (v1 : Int32) (r0 : Int64) (hs : m_X4_keptInTheMean v0 v1 = some r0) : Met l yX4_keptInTheMean (.code yX4_keptInTheMean cX4_keptInTheMean 11 (some .long) :: kG) rm_X4_keptInTheMean (fun v _ => v = ([.int v0, .int v1] : List Value).toArray) (vp_Sl (fun r => r = r0)) 0 0 (fun _ => False) := by
  refine kPl (own := RX4) rfl (by decide) rfl ?_ (Nat.le_of_ble_eq_true rfl)
  intro p e s m args below meth c H Q CF hret ls hl
  obtain ⟨hx, hb, hml, hown, hts⟩ := id CF
  have hl : lv_has ls 11 [(0, .int v0), (1, .int v1)] := hl
  unfold m_X4_keptInTheMean at hs
  refine lv_lconst (v := 0) hx hb dX4_keptInTheMean_0 (by decide) ?_
  refine lv_lstore_n (lv' := [(2, .long (0 : Int64)), (0, .int v0), (1, .int v1)]) hx hb dX4_keptInTheMean_1 rfl hl (by decide) rfl (fun ls hl => ?_)
  refine lv_lconst (v := 1) hx hb dX4_keptInTheMean_2 (by decide) ?_
  refine lv_lstore (lv' := [(4, .long (1 : Int64)), (2, .long (0 : Int64)), (0, .int v0), (1, .int v1)]) hx hb dX4_keptInTheMean_3 hl (by decide) rfl (fun ls hl => ?_)
  refine lv_iconst (v := 1) hx hb dX4_keptInTheMean_5 (by decide) ?_
  refine lv_istore (lv' := [(6, .int (1 : Int32)), (4, .long (1 : Int64)), (2, .long (0 : Int64)), (0, .int v0), (1, .int v1)]) hx hb dX4_keptInTheMean_6 hl (by decide) rfl (fun ls hl => ?_)
  have hL_8 : ∀ (n : Nat) (u2 : Int64) (u4 : Int64) (v6 : Int32) (ls : Array Slot), lv_has ls 11 [(0, .int v0), (1, .int v1), (2, .long u2), (4, .long u4), (6, .int v6)] → L_X4_keptInTheMean_8 v0 v1 n u2 u4 v6 = some r0 → W p l e rm_X4_keptInTheMean s m args below meth c H [] 0 0 Q (F0 m 8 ls []) := by
    intro n
    induction n with
    | zero =>
      intro u2 u4 v6 ls hl hs
      replace hs : (none : Option (Int64)) = some r0 := hs
      cases hs
    | succ n_8 ih_8 =>
      intro u2 u4 v6 ls hl hs
      replace hs : b_X4_keptInTheMean_8  (L_X4_keptInTheMean_8 v0 v1 n_8) v0 v1 u2 u4 v6 = some r0 := hs
      unfold b_X4_keptInTheMean_8 at hs
      refine lv_iload hx hb dX4_keptInTheMean_8 (lv_at hl 4 rfl) ?_
      refine lv_iload_n hx hb dX4_keptInTheMean_10 rfl (lv_at hl 0 rfl) ?_
      refine lv_icmp_gt (tgt := 65) hx hb dX4_keptInTheMean_11 (by decide) (fun c_1 => ?_) (fun c_1 => ?_)
      · replace hs := if_p c_1 hs
        refine lv_lload_n hx hb dX4_keptInTheMean_65 rfl (lv_at hl 2 rfl) ?_
        cases hs
        exact hret _ _ dX4_keptInTheMean_66
      · replace hs := if_n c_1 hs
        refine lv_lload hx hb dX4_keptInTheMean_14 (lv_at hl 3 rfl) ?_
        refine lv_ldc2 (v := 10) hx hb hown (hts _ (kg1 mG_287)) dX4_keptInTheMean_16 ?_
        refine lv_lmul hx hb dX4_keptInTheMean_19 ?_
        refine lv_lstore (lv' := [(4, .long (u4 * (10 : Int64))), (0, .int v0), (1, .int v1), (2, .long u2), (6, .int v6)]) hx hb dX4_keptInTheMean_20 hl (by decide) rfl (fun ls hl => ?_)
        refine lv_bipush (v := 10) hx hb dX4_keptInTheMean_22 (by decide) ?_
        refine lv_iload hx hb dX4_keptInTheMean_24 (lv_at hl 4 rfl) ?_
        refine lv_imul hx hb dX4_keptInTheMean_26 ?_
        refine lv_i2l hx hb dX4_keptInTheMean_27 rfl ?_
        refine lv_lload hx hb dX4_keptInTheMean_28 (lv_at hl 0 rfl) ?_
        refine lv_lmul hx hb dX4_keptInTheMean_30 ?_
        refine lv_lstore (lv' := [(7, .long ((Int32.toInt64 ((10 : Int32) * v6)) * (u4 * (10 : Int64)))), (4, .long (u4 * (10 : Int64))), (0, .int v0), (1, .int v1), (2, .long u2), (6, .int v6)]) hx hb dX4_keptInTheMean_31 hl (by decide) rfl (fun ls hl => ?_)
        refine lv_bipush (v := 10) hx hb dX4_keptInTheMean_33 (by decide) ?_
        refine lv_iload_n hx hb dX4_keptInTheMean_35 rfl (lv_at hl 3 rfl) ?_
        refine lv_imul hx hb dX4_keptInTheMean_36 ?_
        refine lv_i2l hx hb dX4_keptInTheMean_37 rfl ?_
        refine lv_lload hx hb dX4_keptInTheMean_38 (lv_at hl 1 rfl) ?_
        refine lv_lmul hx hb dX4_keptInTheMean_40 ?_
        refine lv_bipush (v := 10) hx hb dX4_keptInTheMean_41 (by decide) ?_
        refine lv_iload_n hx hb dX4_keptInTheMean_43 rfl (lv_at hl 3 rfl) ?_
        refine lv_isub hx hb dX4_keptInTheMean_44 ?_
        refine lv_i2l hx hb dX4_keptInTheMean_45 rfl ?_
        refine lv_lload_n hx hb dX4_keptInTheMean_46 rfl (lv_at hl 4 rfl) ?_
        refine lv_lmul hx hb dX4_keptInTheMean_47 ?_
        refine lv_ladd hx hb dX4_keptInTheMean_48 ?_
        refine lv_topl (fun w_2 ew_2 => ?_)
        replace hs := bnd_e ew_2 hs
        refine lv_lstore (lv' := [(9, .long w_2), (7, .long ((Int32.toInt64 ((10 : Int32) * v6)) * (u4 * (10 : Int64)))), (4, .long (u4 * (10 : Int64))), (0, .int v0), (1, .int v1), (2, .long u2), (6, .int v6)]) hx hb dX4_keptInTheMean_49 hl (by decide) rfl (fun ls hl => ?_)
        refine lv_lload hx hb dX4_keptInTheMean_51 (lv_at hl 1 rfl) ?_
        refine lv_lload hx hb dX4_keptInTheMean_53 (lv_at hl 0 rfl) ?_
        refine va_mmax_long hx hb (by rw [hml]; exact hl.1.symm) hown (hts _ (kg1 mG_288)) (hts _ (kg1 mG_289)) (hts _ (kg1 mG_85)) (hts _ (kg1 mG_290)) (Nat.le_of_ble_eq_true rfl) (Nat.le_of_ble_eq_true rfl) (Nat.zero_le _) (Nat.zero_le _) dX4_keptInTheMean_55 ?_
        refine lv_lstore_n (lv' := [(2, .long (lmax ((Int32.toInt64 ((10 : Int32) * v6)) * (u4 * (10 : Int64))) w_2)), (9, .long w_2), (7, .long ((Int32.toInt64 ((10 : Int32) * v6)) * (u4 * (10 : Int64)))), (4, .long (u4 * (10 : Int64))), (0, .int v0), (1, .int v1), (6, .int v6)]) hx hb dX4_keptInTheMean_58 rfl hl (by decide) rfl (fun ls hl => ?_)
        refine lv_iinc (v := (v6 + 1)) (lv' := [(6, .int (v6 + 1)), (2, .long (lmax ((Int32.toInt64 ((10 : Int32) * v6)) * (u4 * (10 : Int64))) w_2)), (9, .long w_2), (7, .long ((Int32.toInt64 ((10 : Int32) * v6)) * (u4 * (10 : Int64)))), (4, .long (u4 * (10 : Int64))), (0, .int v0), (1, .int v1)]) hx hb dX4_keptInTheMean_59 hl (k := 6) rfl rfl (by decide) rfl (fun ls hl => ?_)
        refine lv_goto (tgt := 8) hx hb dX4_keptInTheMean_62 (by decide) ?_
        exact ih_8 (lmax ((Int32.toInt64 ((10 : Int32) * v6)) * (u4 * (10 : Int64))) w_2) (u4 * (10 : Int64)) (v6 + 1) _ (lv_sub hl [5, 6, 1, 4, 0] rfl) hs
  exact hL_8 fu (0 : Int64) (1 : Int64) (1 : Int32) _ (lv_sub hl [3, 4, 2, 1, 0] rfl) hs
abbrev rm_X4_commonDivisor : Room := { frames := 1, cells := 0, slots := 0, locals := 15 }
theorem hd_X4_commonDivisor : yX4_commonDivisor.cls ≠ "java/lang/invoke/MethodHandle" ∧ yX4_commonDivisor.cls ≠ "java/lang/invoke/VarHandle" ∧ (parseMethodDescriptor yX4_commonDivisor.desc).map (fun d => d.parameters.length) = some 2 := by decide +kernel
set_option maxHeartbeats 4000000 in
set_option maxRecDepth 100000 in
theorem k_X4_commonDivisor (l : Launch) (u0 : Int64) (u2 : Int64) (r0 : Int64) (hs : m_X4_commonDivisor u0 u2 = some r0) : Met l yX4_commonDivisor (.code yX4_commonDivisor cX4_commonDivisor 11 (some .long) :: kG) rm_X4_commonDivisor (fun v _ => v = ([.long u0, .long u2] : List Value).toArray) (vp_Sl (fun r => r = r0)) 0 0 (fun _ => False) := by
  refine kPl (own := RX4) rfl (by decide) rfl ?_ (Nat.le_of_ble_eq_true rfl)
  intro p e s m args below meth c H Q CF hret ls hl
  obtain ⟨hx, hb, hml, hown, hts⟩ := id CF
  have hl : lv_has ls 11 [(0, .long u0), (2, .long u2)] := hl
  unfold m_X4_commonDivisor at hs
  refine lv_lload_n hx hb dX4_commonDivisor_0 rfl (lv_at hl 0 rfl) ?_
  refine lv_lstore (lv' := [(4, .long u0), (0, .long u0), (2, .long u2)]) hx hb dX4_commonDivisor_1 hl (by decide) rfl (fun ls hl => ?_)
  refine lv_lload_n hx hb dX4_commonDivisor_3 rfl (lv_at hl 2 rfl) ?_
  refine lv_lstore (lv' := [(6, .long u2), (4, .long u0), (0, .long u0), (2, .long u2)]) hx hb dX4_commonDivisor_4 hl (by decide) rfl (fun ls hl => ?_)
  refine lv_iconst (v := 0) hx hb dX4_commonDivisor_6 (by decide) ?_
  refine lv_istore (lv' := [(8, .int (0 : Int32)), (6, .long u2), (4, .long u0), (0, .long u0), (2, .long u2)]) hx hb dX4_commonDivisor_7 hl (by decide) rfl (fun ls hl => ?_)
  have hL_9 : ∀ (n : Nat) (u4 : Int64) (u6 : Int64) (v8 : Int32) (ls : Array Slot), lv_has ls 11 [(4, .long u4), (6, .long u6), (8, .int v8)] → L_X4_commonDivisor_9 n u4 u6 v8 = some r0 → W p l e rm_X4_commonDivisor s m args below meth c H [] 0 0 Q (F0 m 9 ls []) := by
    intro n
    induction n with
    | zero =>
      intro u4 u6 v8 ls hl hs
      replace hs : (none : Option (Int64)) = some r0 := hs
      cases hs
    | succ n_9 ih_9 =>
      intro u4 u6 v8 ls hl hs
      replace hs : b_X4_commonDivisor_9  (L_X4_commonDivisor_9 n_9)  u4 u6 v8 = some r0 := hs
      unfold b_X4_commonDivisor_9 at hs
      refine lv_iload hx hb dX4_commonDivisor_9 (lv_at hl 2 rfl) ?_
      refine lv_bipush (v := 100) hx hb dX4_commonDivisor_11 (by decide) ?_
      have hJ_44 : ∀ (u4 : Int64) (ls : Array Slot), lv_has ls 11 [(4, .long u4)] → j_X4_commonDivisor_44 u4 = some r0 → W p l e rm_X4_commonDivisor s m args below meth c H [] 0 0 Q (F0 m 44 ls []) := by
        intro u4 ls hl hs
        unfold j_X4_commonDivisor_44 at hs
        refine lv_lconst (v := 1) hx hb dX4_commonDivisor_44 (by decide) ?_
        refine lv_lload hx hb dX4_commonDivisor_45 (lv_at hl 0 rfl) ?_
        refine va_mmax_long hx hb (by rw [hml]; exact hl.1.symm) hown (hts _ (kg1 mG_288)) (hts _ (kg1 mG_289)) (hts _ (kg1 mG_85)) (hts _ (kg1 mG_290)) (Nat.le_of_ble_eq_true rfl) (Nat.le_of_ble_eq_true rfl) (Nat.zero_le _) (Nat.zero_le _) dX4_commonDivisor_47 ?_
        cases hs
        exact hret _ _ dX4_commonDivisor_50
      refine lv_icmp_ge (tgt := 44) hx hb dX4_commonDivisor_13 (by decide) (fun c_1 => ?_) (fun c_1 => ?_)
      · replace hs := if_p c_1 hs
        exact hJ_44 u4 _ (lv_sub hl [0] rfl) hs
      · replace hs := if_n c_1 hs
        refine lv_lload hx hb dX4_commonDivisor_16 (lv_at hl 1 rfl) ?_
        refine lv_lconst (v := 0) hx hb dX4_commonDivisor_18 (by decide) ?_
        refine W.lcmp hx hb dX4_commonDivisor_19 ?_
        refine lv_if_eq (tgt := 44) hx hb dX4_commonDivisor_20 (by decide) (fun c_2 => ?_) (fun c_2 => ?_)
        · replace hs := if_p c_2 hs
          exact hJ_44 u4 _ (lv_sub hl [0] rfl) hs
        · replace hs := if_n c_2 hs
          refine lv_lload hx hb dX4_commonDivisor_23 (lv_at hl 0 rfl) ?_
          refine lv_lload hx hb dX4_commonDivisor_25 (lv_at hl 1 rfl) ?_
          obtain ⟨hg_3, hs⟩ := gd_e hs
          refine lv_lrem hx hb dX4_commonDivisor_27 (nzl_e hg_3) ?_
          refine lv_lstore (lv' := [(9, .long (lrem u4 u6)), (4, .long u4), (6, .long u6), (8, .int v8)]) hx hb dX4_commonDivisor_28 hl (by decide) rfl (fun ls hl => ?_)
          refine lv_lload hx hb dX4_commonDivisor_30 (lv_at hl 2 rfl) ?_
          refine lv_lstore (lv' := [(4, .long u6), (9, .long (lrem u4 u6)), (6, .long u6), (8, .int v8)]) hx hb dX4_commonDivisor_32 hl (by decide) rfl (fun ls hl => ?_)
          refine lv_lload hx hb dX4_commonDivisor_34 (lv_at hl 1 rfl) ?_
          refine lv_lstore (lv' := [(6, .long (lrem u4 u6)), (4, .long u6), (9, .long (lrem u4 u6)), (8, .int v8)]) hx hb dX4_commonDivisor_36 hl (by decide) rfl (fun ls hl => ?_)
          refine lv_iinc (v := (v8 + 1)) (lv' := [(8, .int (v8 + 1)), (6, .long (lrem u4 u6)), (4, .long u6), (9, .long (lrem u4 u6))]) hx hb dX4_commonDivisor_38 hl (k := 3) rfl rfl (by decide) rfl (fun ls hl => ?_)
          refine lv_goto (tgt := 9) hx hb dX4_commonDivisor_41 (by decide) ?_
          exact ih_9 u6 (lrem u4 u6) (v8 + 1) _ (lv_sub hl [2, 1, 0] rfl) hs
  exact hL_9 fu u0 u2 (0 : Int32) _ (lv_sub hl [2, 1, 0] rfl) hs
abbrev rm_X4_lotsAmong : Room := { frames := 0, cells := 0, slots := 0, locals := 0 }
theorem hd_X4_lotsAmong : yX4_lotsAmong.cls ≠ "java/lang/invoke/MethodHandle" ∧ yX4_lotsAmong.cls ≠ "java/lang/invoke/VarHandle" ∧ (parseMethodDescriptor yX4_lotsAmong.desc).map (fun d => d.parameters.length) = some 1 := by decide +kernel
set_option maxHeartbeats 4000000 in
set_option maxRecDepth 100000 in
theorem k_X4_lotsAmong (l : Launch) (v0 : Int32) (r0 : Int32) (hs : m_X4_lotsAmong v0 = some r0) : Met l yX4_lotsAmong (.code yX4_lotsAmong cX4_lotsAmong 2 (some .int) :: kG) rm_X4_lotsAmong (fun v _ => v = ([.int v0] : List Value).toArray) (vp_Si (fun r => r = r0)) 0 0 (fun _ => False) := by
  refine kPi (own := RX4) (ty := .int) rfl (by decide) rfl ?_ (Nat.le_of_ble_eq_true rfl)
  intro p e s m args below meth c H Q CF hret ls hl
  obtain ⟨hx, hb, hml, hown, hts⟩ := id CF
  have hl : lv_has ls 2 [(0, .int v0)] := hl
  unfold m_X4_lotsAmong at hs
  refine lv_iconst (v := 0) hx hb dX4_lotsAmong_0 (by decide) ?_
  refine lv_istore_n (lv' := [(1, .int (0 : Int32)), (0, .int v0)]) hx hb dX4_lotsAmong_1 rfl hl (by decide) rfl (fun ls hl => ?_)
  have hL_2 : ∀ (n : Nat) (v1 : Int32) (ls : Array Slot), lv_has ls 2 [(0, .int v0), (1, .int v1)] → L_X4_lotsAmong_2 v0 n v1 = some r0 → W p l e rm_X4_lotsAmong s m args below meth c H [] 0 0 Q (F0 m 2 ls []) := by
    intro n
    induction n with
    | zero =>
      intro v1 ls hl hs
      replace hs : (none : Option (Int32)) = some r0 := hs
      cases hs
    | succ n_2 ih_2 =>
      intro v1 ls hl hs
      replace hs : b_X4_lotsAmong_2  (L_X4_lotsAmong_2 v0 n_2) v0 v1 = some r0 := hs
      unfold b_X4_lotsAmong_2 at hs
      refine lv_iload_n hx hb dX4_lotsAmong_2 rfl (lv_at hl 1 rfl) ?_
      refine lv_bipush (v := 30) hx hb dX4_lotsAmong_3 (by decide) ?_
      refine lv_icmp_ge (tgt := 21) hx hb dX4_lotsAmong_5 (by decide) (fun c_1 => ?_) (fun c_1 => ?_)
      · replace hs := if_p c_1 hs
        refine lv_iload_n hx hb dX4_lotsAmong_21 rfl (lv_at hl 1 rfl) ?_
        cases hs
        exact hret _ _ (vp_nar_int _) dX4_lotsAmong_22
      · replace hs := if_n c_1 hs
        refine lv_iconst (v := 1) hx hb dX4_lotsAmong_8 (by decide) ?_
        refine lv_iload_n hx hb dX4_lotsAmong_9 rfl (lv_at hl 1 rfl) ?_
        refine lv_ishl hx hb dX4_lotsAmong_10 ?_
        refine lv_iload_n hx hb dX4_lotsAmong_11 rfl (lv_at hl 0 rfl) ?_
        refine lv_icmp_ge (tgt := 21) hx hb dX4_lotsAmong_12 (by decide) (fun c_2 => ?_) (fun c_2 => ?_)
        · replace hs := if_p c_2 hs
          refine lv_iload_n hx hb dX4_lotsAmong_21 rfl (lv_at hl 1 rfl) ?_
          cases hs
          exact hret _ _ (vp_nar_int _) dX4_lotsAmong_22
        · replace hs := if_n c_2 hs
          refine lv_iinc (v := (v1 + 1)) (lv' := [(1, .int (v1 + 1)), (0, .int v0)]) hx hb dX4_lotsAmong_15 hl (k := 1) rfl rfl (by decide) rfl (fun ls hl => ?_)
          refine lv_goto (tgt := 2) hx hb dX4_lotsAmong_18 (by decide) ?_
          exact ih_2 (v1 + 1) _ (lv_sub hl [1, 0] rfl) hs
  exact hL_2 fu (0 : Int32) _ (lv_sub hl [1, 0] rfl) hs
abbrev rm_X5_in : Room := { frames := 0, cells := 0, slots := 0, locals := 0 }
theorem hd_X5_in : yX5_in.cls ≠ "java/lang/invoke/MethodHandle" ∧ yX5_in.cls ≠ "java/lang/invoke/VarHandle" ∧ (parseMethodDescriptor yX5_in.desc).map (fun d => d.parameters.length) = some 3 := by decide +kernel
set_option maxHeartbeats 4000000 in
set_option maxRecDepth 100000 in
theorem k_X5_in (l : Launch) (v0 : Int32) (v1 : Int32) (v2 : Int32) (r0 : Int32) (hs : m_X5_in v0 v1 v2 = r0) : Met l yX5_in (.code yX5_in cX5_in 3 (some .boolean) :: kG) rm_X5_in (fun v _ => v = ([.int v0, .int v1, .int v2] : List Value).toArray) (vp_Si (fun r => r = r0)) 0 0 (fun _ => False) := by
  refine kPi (own := RX5) (ty := .boolean) rfl (by decide) rfl ?_ (Nat.le_of_ble_eq_true rfl)
  intro p e s m args below meth c H Q CF hret ls hl
  obtain ⟨hx, hb, hml, hown, hts⟩ := id CF
  have hl : lv_has ls 3 [(0, .int v0), (1, .int v1), (2, .int v2)] := hl
  unfold m_X5_in at hs
  refine lv_iload_n hx hb dX5_in_0 rfl (lv_at hl 0 rfl) ?_
  refine lv_iload_n hx hb dX5_in_1 rfl (lv_at hl 1 rfl) ?_
  refine lv_icmp_lt (tgt := 14) hx hb dX5_in_2 (by decide) (fun c_1 => ?_) (fun c_1 => ?_)
  · replace hs := if_p c_1 hs
    refine lv_iconst (v := 0) hx hb dX5_in_14 (by decide) ?_
    cases hs
    exact hret _ _ rfl dX5_in_15
  · replace hs := if_n c_1 hs
    refine lv_iload_n hx hb dX5_in_5 rfl (lv_at hl 0 rfl) ?_
    refine lv_iload_n hx hb dX5_in_6 rfl (lv_at hl 2 rfl) ?_
    refine lv_icmp_gt (tgt := 14) hx hb dX5_in_7 (by decide) (fun c_2 => ?_) (fun c_2 => ?_)
    · replace hs := if_p c_2 hs
      refine lv_iconst (v := 0) hx hb dX5_in_14 (by decide) ?_
      cases hs
      exact hret _ _ rfl dX5_in_15
    · replace hs := if_n c_2 hs
      refine lv_iconst (v := 1) hx hb dX5_in_10 (by decide) ?_
      refine lv_goto (tgt := 15) hx hb dX5_in_11 (by decide) ?_
      cases hs
      exact hret _ _ rfl dX5_in_15
abbrev rm_X5_has : Room := { frames := 0, cells := 0, slots := 0, locals := 0 }
theorem hd_X5_has : yX5_has.cls ≠ "java/lang/invoke/MethodHandle" ∧ yX5_has.cls ≠ "java/lang/invoke/VarHandle" ∧ (parseMethodDescriptor yX5_has.desc).map (fun d => d.parameters.length) = some 2 := by decide +kernel
set_option maxHeartbeats 4000000 in
set_option maxRecDepth 100000 in
theorem k_X5_has (l : Launch) (v0 : Int32) (v1 : Int32) (r0 : Int32) (hs : m_X5_has v0 v1 = r0) : Met l yX5_has (.code yX5_has cX5_has 2 (some .boolean) :: kG) rm_X5_has (fun v _ => v = ([.int v0, .int v1] : List Value).toArray) (vp_Si (fun r => r = r0)) 0 0 (fun _ => False) := by
  refine kPi (own := RX5) (ty := .boolean) rfl (by decide) rfl ?_ (Nat.le_of_ble_eq_true rfl)
  intro p e s m args below meth c H Q CF hret ls hl
  obtain ⟨hx, hb, hml, hown, hts⟩ := id CF
  have hl : lv_has ls 2 [(0, .int v0), (1, .int v1)] := hl
  unfold m_X5_has at hs
  refine lv_iload_n hx hb dX5_has_0 rfl (lv_at hl 0 rfl) ?_
  refine lv_iload_n hx hb dX5_has_1 rfl (lv_at hl 1 rfl) ?_
  refine lv_ishr hx hb dX5_has_2 ?_
  refine lv_iconst (v := 1) hx hb dX5_has_3 (by decide) ?_
  refine lv_iand hx hb dX5_has_4 ?_
  refine lv_iconst (v := 1) hx hb dX5_has_5 (by decide) ?_
  refine lv_icmp_ne (tgt := 13) hx hb dX5_has_6 (by decide) (fun c_1 => ?_) (fun c_1 => ?_)
  · replace hs := if_n c_1 hs
    refine lv_iconst (v := 0) hx hb dX5_has_13 (by decide) ?_
    cases hs
    exact hret _ _ rfl dX5_has_14
  · replace hs := if_p c_1 hs
    refine lv_iconst (v := 1) hx hb dX5_has_9 (by decide) ?_
    refine lv_goto (tgt := 14) hx hb dX5_has_10 (by decide) ?_
    cases hs
    exact hret _ _ rfl dX5_has_14
abbrev rm_X5_bits : Room := { frames := 0, cells := 0, slots := 0, locals := 0 }
theorem hd_X5_bits : yX5_bits.cls ≠ "java/lang/invoke/MethodHandle" ∧ yX5_bits.cls ≠ "java/lang/invoke/VarHandle" ∧ (parseMethodDescriptor yX5_bits.desc).map (fun d => d.parameters.length) = some 1 := by decide +kernel
set_option maxHeartbeats 4000000 in
set_option maxRecDepth 100000 in
theorem k_X5_bits (l : Launch) (v0 : Int32) (r0 : Int32) (hs : m_X5_bits v0 = some r0) : Met l yX5_bits (.code yX5_bits cX5_bits 3 (some .int) :: kG) rm_X5_bits (fun v _ => v = ([.int v0] : List Value).toArray) (vp_Si (fun r => r = r0)) 0 0 (fun _ => False) := by
  refine kPi (own := RX5) (ty := .int) rfl (by decide) rfl ?_ (Nat.le_of_ble_eq_true rfl)
  intro p e s m args below meth c H Q CF hret ls hl
  obtain ⟨hx, hb, hml, hown, hts⟩ := id CF
  have hl : lv_has ls 3 [(0, .int v0)] := hl
  unfold m_X5_bits at hs
  refine lv_iconst (v := 0) hx hb dX5_bits_0 (by decide) ?_
  refine lv_istore_n (lv' := [(1, .int (0 : Int32)), (0, .int v0)]) hx hb dX5_bits_1 rfl hl (by decide) rfl (fun ls hl => ?_)
  refine lv_iconst (v := 0) hx hb dX5_bits_2 (by decide) ?_
  refine lv_istore_n (lv' := [(2, .int (0 : Int32)), (1, .int (0 : Int32)), (0, .int v0)]) hx hb dX5_bits_3 rfl hl (by decide) rfl (fun ls hl => ?_)
  have hL_4 : ∀ (n : Nat) (v1 : Int32) (v2 : Int32) (ls : Array Slot), lv_has ls 3 [(0, .int v0), (1, .int v1), (2, .int v2)] → L_X5_bits_4 v0 n v1 v2 = some r0 → W p l e rm_X5_bits s m args below meth c H [] 0 0 Q (F0 m 4 ls []) := by
    intro n
    induction n with
    | zero =>
      intro v1 v2 ls hl hs
      replace hs : (none : Option (Int32)) = some r0 := hs
      cases hs
    | succ n_4 ih_4 =>
      intro v1 v2 ls hl hs
      replace hs : b_X5_bits_4  (L_X5_bits_4 v0 n_4) v0 v1 v2 = some r0 := hs
      unfold b_X5_bits_4 at hs
      refine lv_iload_n hx hb dX5_bits_4 rfl (lv_at hl 2 rfl) ?_
      refine lv_bipush (v := 12) hx hb dX5_bits_5 (by decide) ?_
      refine lv_icmp_ge (tgt := 24) hx hb dX5_bits_7 (by decide) (fun c_1 => ?_) (fun c_1 => ?_)
      · replace hs := if_p c_1 hs
        refine lv_iload_n hx hb dX5_bits_24 rfl (lv_at hl 1 rfl) ?_
        cases hs
        exact hret _ _ (vp_nar_int _) dX5_bits_25
      · replace hs := if_n c_1 hs
        refine lv_iload_n hx hb dX5_bits_10 rfl (lv_at hl 1 rfl) ?_
        refine lv_iload_n hx hb dX5_bits_11 rfl (lv_at hl 0 rfl) ?_
        refine lv_iload_n hx hb dX5_bits_12 rfl (lv_at hl 2 rfl) ?_
        refine lv_ishr hx hb dX5_bits_13 ?_
        refine lv_iconst (v := 1) hx hb dX5_bits_14 (by decide) ?_
        refine lv_iand hx hb dX5_bits_15 ?_
        refine lv_iadd hx hb dX5_bits_16 ?_
        refine lv_istore_n (lv' := [(1, .int (v1 + ((v0 >>> (v2 &&& 31)) &&& (1 : Int32)))), (0, .int v0), (2, .int v2)]) hx hb dX5_bits_17 rfl hl (by decide) rfl (fun ls hl => ?_)
        refine lv_iinc (v := (v2 + 1)) (lv' := [(2, .int (v2 + 1)), (1, .int (v1 + ((v0 >>> (v2 &&& 31)) &&& (1 : Int32)))), (0, .int v0)]) hx hb dX5_bits_18 hl (k := 2) rfl rfl (by decide) rfl (fun ls hl => ?_)
        refine lv_goto (tgt := 4) hx hb dX5_bits_21 (by decide) ?_
        exact ih_4 (v1 + ((v0 >>> (v2 &&& 31)) &&& (1 : Int32))) (v2 + 1) _ (lv_sub hl [2, 1, 0] rfl) hs
  exact hL_4 fu (0 : Int32) (0 : Int32) _ (lv_sub hl [2, 1, 0] rfl) hs
abbrev rm_X5_isPart : Room := { frames := 1, cells := 0, slots := 0, locals := 22 }
theorem hd_X5_isPart : yX5_isPart.cls ≠ "java/lang/invoke/MethodHandle" ∧ yX5_isPart.cls ≠ "java/lang/invoke/VarHandle" ∧ (parseMethodDescriptor yX5_isPart.desc).map (fun d => d.parameters.length) = some 1 := by decide +kernel
set_option maxHeartbeats 4000000 in
set_option maxRecDepth 100000 in
theorem k_X5_isPart (l : Launch) (v0 : Int32) (r0 : Int32) (hs : m_X5_isPart v0 = some r0) : Met l yX5_isPart (.code yX5_isPart cX5_isPart 1 (some .boolean) :: kG) rm_X5_isPart (fun v _ => v = ([.int v0] : List Value).toArray) (vp_Si (fun r => r = r0)) 0 0 (fun _ => False) := by
  refine kPi (own := RX5) (ty := .boolean) rfl (by decide) rfl ?_ (Nat.le_of_ble_eq_true rfl)
  intro p e s m args below meth c H Q CF hret ls hl
  obtain ⟨hx, hb, hml, hown, hts⟩ := id CF
  have hl : lv_has ls 1 [(0, .int v0)] := hl
  unfold m_X5_isPart at hs
  refine lv_iload_n hx hb dX5_isPart_0 rfl (lv_at hl 0 rfl) ?_
  refine lv_iconst (v := 0) hx hb dX5_isPart_1 (by decide) ?_
  refine lv_bipush (v := 11) hx hb dX5_isPart_2 (by decide) ?_
  refine kpi (va_runS (As := [.int v0, .int (0 : Int32), .int (11 : Int32)]) (rest := []) ⟨hx, hb, hml, hown, hts⟩ (k_X5_in l v0 (0 : Int32) (11 : Int32) _ rfl) (va_cwS 3 hts (kGood (kgS mG_330 mG_331 mG_332 mG_326)) rfl rfl rfl hd_X5_in ⟨Nat.le_of_ble_eq_true rfl, Nat.le_of_ble_eq_true rfl⟩) preEq rfl rfl hl.1 rfl (lv_room (Nat.le_of_ble_eq_true rfl)) dX5_isPart_4 ⟨Nat.zero_le _, Nat.zero_le _⟩) ?_
  obtain ⟨hg_1, hs⟩ := gd_e hs
  cases hs
  exact hret _ _ (z01_e hg_1) dX5_isPart_7
abbrev rm_X5_shakes : Room := { frames := 0, cells := 0, slots := 0, locals := 0 }
theorem hd_X5_shakes : yX5_shakes.cls ≠ "java/lang/invoke/MethodHandle" ∧ yX5_shakes.cls ≠ "java/lang/invoke/VarHandle" ∧ (parseMethodDescriptor yX5_shakes.desc).map (fun d => d.parameters.length) = some 2 := by decide +kernel
set_option maxHeartbeats 4000000 in
set_option maxRecDepth 100000 in
theorem k_X5_shakes (l : Launch) (v0 : Int32) (v1 : Int32) (r0 : Int32) (hs : m_X5_shakes v0 v1 = r0) : Met l yX5_shakes (.code yX5_shakes cX5_shakes 3 (some .int) :: kG) rm_X5_shakes (fun v _ => v = ([.int v0, .int v1] : List Value).toArray) (vp_Si (fun r => r = r0)) 0 0 (fun _ => False) := by
  refine kPi (own := RX5) (ty := .int) rfl (by decide) rfl ?_ (Nat.le_of_ble_eq_true rfl)
  intro p e s m args below meth c H Q CF hret ls hl
  obtain ⟨hx, hb, hml, hown, hts⟩ := id CF
  have hl : lv_has ls 3 [(0, .int v0), (1, .int v1)] := hl
  unfold m_X5_shakes at hs
  refine lv_iload_n hx hb dX5_shakes_0 rfl (lv_at hl 0 rfl) ?_
  refine lv_iload_n hx hb dX5_shakes_1 rfl (lv_at hl 1 rfl) ?_
  have hJ_14 : ∀ (s14_0 : Int32) (ls : Array Slot), lv_has ls 3 [] → j_X5_shakes_14 s14_0 = r0 → W p l e rm_X5_shakes s m args below meth c H [] 0 0 Q (F0 m 14 ls [.int s14_0]) := by
    intro s14_0 ls hl hs
    unfold j_X5_shakes_14 at hs
    refine lv_istore_n (lv' := [(2, .int s14_0)]) hx hb dX5_shakes_14 rfl hl (by decide) rfl (fun ls hl => ?_)
    refine lv_iload_n hx hb dX5_shakes_15 rfl (lv_at hl 0 rfl) ?_
    refine lv_iconst (v := 2) hx hb dX5_shakes_16 (by decide) ?_
    refine lv_icmp_le (tgt := 24) hx hb dX5_shakes_17 (by decide) (fun c_2 => ?_) (fun c_2 => ?_)
    · replace hs := if_p c_2 hs
      refine lv_iconst (v := 2) hx hb dX5_shakes_24 (by decide) ?_
      refine lv_iload_n hx hb dX5_shakes_25 rfl (lv_at hl 0 rfl) ?_
      refine lv_isub hx hb dX5_shakes_26 ?_
      cases hs
      exact hret _ _ (vp_nar_int _) dX5_shakes_27
    · replace hs := if_n c_2 hs
      refine lv_iconst (v := 0) hx hb dX5_shakes_20 (by decide) ?_
      refine lv_goto (tgt := 27) hx hb dX5_shakes_21 (by decide) ?_
      cases hs
      exact hret _ _ (vp_nar_int _) dX5_shakes_27
  refine lv_icmp_le (tgt := 11) hx hb dX5_shakes_2 (by decide) (fun c_1 => ?_) (fun c_1 => ?_)
  · replace hs := if_p c_1 hs
    refine lv_iload_n hx hb dX5_shakes_11 rfl (lv_at hl 1 rfl) ?_
    refine lv_iload_n hx hb dX5_shakes_12 rfl (lv_at hl 0 rfl) ?_
    refine lv_isub hx hb dX5_shakes_13 ?_
    exact hJ_14 (v1 - v0) _ (lv_sub hl [] rfl) hs
  · replace hs := if_n c_1 hs
    refine lv_iload_n hx hb dX5_shakes_5 rfl (lv_at hl 0 rfl) ?_
    refine lv_iload_n hx hb dX5_shakes_6 rfl (lv_at hl 1 rfl) ?_
    refine lv_isub hx hb dX5_shakes_7 ?_
    refine lv_goto (tgt := 14) hx hb dX5_shakes_8 (by decide) ?_
    exact hJ_14 (v0 - v1) _ (lv_sub hl [] rfl) hs
abbrev rm_X5_stretch : Room := { frames := 0, cells := 0, slots := 0, locals := 0 }
theorem hd_X5_stretch : yX5_stretch.cls ≠ "java/lang/invoke/MethodHandle" ∧ yX5_stretch.cls ≠ "java/lang/invoke/VarHandle" ∧ (parseMethodDescriptor yX5_stretch.desc).map (fun d => d.parameters.length) = some 2 := by decide +kernel
set_option maxHeartbeats 4000000 in
set_option maxRecDepth 100000 in
theorem k_X5_stretch (l : Launch) (v0 : Int32) (v1 : Int32) (r0 : Int32) (hs : m_X5_stretch v0 v1 = some r0) : Met l yX5_stretch (.code yX5_stretch cX5_stretch 4 (some .int) :: kG) rm_X5_stretch (fun v _ => v = ([.int v0, .int v1] : List Value).toArray) (vp_Si (fun r => r = r0)) 0 0 (fun _ => False) := by
  refine kPi (own := RX5) (ty := .int) rfl (by decide) rfl ?_ (Nat.le_of_ble_eq_true rfl)
  intro p e s m args below meth c H Q CF hret ls hl
  obtain ⟨hx, hb, hml, hown, hts⟩ := id CF
  have hl : lv_has ls 4 [(0, .int v0), (1, .int v1)] := hl
  unfold m_X5_stretch at hs
  refine lv_iconst (v := 0) hx hb dX5_stretch_0 (by decide) ?_
  refine lv_istore_n (lv' := [(2, .int (0 : Int32)), (0, .int v0), (1, .int v1)]) hx hb dX5_stretch_1 rfl hl (by decide) rfl (fun ls hl => ?_)
  refine lv_iconst (v := 0) hx hb dX5_stretch_2 (by decide) ?_
  refine lv_istore_n (lv' := [(3, .int (0 : Int32)), (2, .int (0 : Int32)), (0, .int v0), (1, .int v1)]) hx hb dX5_stretch_3 rfl hl (by decide) rfl (fun ls hl => ?_)
  have hL_4 : ∀ (n : Nat) (v2 : Int32) (v3 : Int32) (ls : Array Slot), lv_has ls 4 [(0, .int v0), (1, .int v1), (2, .int v2), (3, .int v3)] → L_X5_stretch_4 v0 v1 n v2 v3 = some r0 → W p l e rm_X5_stretch s m args below meth c H [] 0 0 Q (F0 m 4 ls []) := by
    intro n
    induction n with
    | zero =>
      intro v2 v3 ls hl hs
      replace hs : (none : Option (Int32)) = some r0 := hs
      cases hs
    | succ n_4 ih_4 =>
      intro v2 v3 ls hl hs
      replace hs : b_X5_stretch_4  (L_X5_stretch_4 v0 v1 n_4) v0 v1 v2 v3 = some r0 := hs
      unfold b_X5_stretch_4 at hs
      refine lv_iload_n hx hb dX5_stretch_4 rfl (lv_at hl 3 rfl) ?_
      refine lv_iload_n hx hb dX5_stretch_5 rfl (lv_at hl 1 rfl) ?_
      refine lv_icmp_ge (tgt := 26) hx hb dX5_stretch_6 (by decide) (fun c_1 => ?_) (fun c_1 => ?_)
      · replace hs := if_p c_1 hs
        refine lv_iload_n hx hb dX5_stretch_26 rfl (lv_at hl 2 rfl) ?_
        cases hs
        exact hret _ _ (vp_nar_int _) dX5_stretch_27
      · replace hs := if_n c_1 hs
        refine lv_iload_n hx hb dX5_stretch_9 rfl (lv_at hl 2 rfl) ?_
        refine lv_iconst (v := 1) hx hb dX5_stretch_10 (by decide) ?_
        refine lv_iload_n hx hb dX5_stretch_11 rfl (lv_at hl 0 rfl) ?_
        refine lv_iload_n hx hb dX5_stretch_12 rfl (lv_at hl 3 rfl) ?_
        refine lv_iadd hx hb dX5_stretch_13 ?_
        refine lv_bipush (v := 12) hx hb dX5_stretch_14 (by decide) ?_
        refine lv_irem hx hb dX5_stretch_16 (by decide) ?_
        refine lv_ishl hx hb dX5_stretch_17 ?_
        refine lv_ior hx hb dX5_stretch_18 ?_
        refine lv_istore_n (lv' := [(2, .int (v2 ||| ((1 : Int32) <<< ((irem (v0 + v3) (12 : Int32)) &&& 31)))), (0, .int v0), (1, .int v1), (3, .int v3)]) hx hb dX5_stretch_19 rfl hl (by decide) rfl (fun ls hl => ?_)
        refine lv_iinc (v := (v3 + 1)) (lv' := [(3, .int (v3 + 1)), (2, .int (v2 ||| ((1 : Int32) <<< ((irem (v0 + v3) (12 : Int32)) &&& 31)))), (0, .int v0), (1, .int v1)]) hx hb dX5_stretch_20 hl (k := 3) rfl rfl (by decide) rfl (fun ls hl => ?_)
        refine lv_goto (tgt := 4) hx hb dX5_stretch_23 (by decide) ?_
        exact ih_4 (v2 ||| ((1 : Int32) <<< ((irem (v0 + v3) (12 : Int32)) &&& 31))) (v3 + 1) _ (lv_sub hl [2, 3, 1, 0] rfl) hs
  exact hL_4 fu (0 : Int32) (0 : Int32) _ (lv_sub hl [2, 3, 1, 0] rfl) hs
abbrev rm_X5_lotsFor : Room := { frames := 0, cells := 0, slots := 0, locals := 0 }
theorem hd_X5_lotsFor : yX5_lotsFor.cls ≠ "java/lang/invoke/MethodHandle" ∧ yX5_lotsFor.cls ≠ "java/lang/invoke/VarHandle" ∧ (parseMethodDescriptor yX5_lotsFor.desc).map (fun d => d.parameters.length) = some 1 := by decide +kernel
set_option maxHeartbeats 4000000 in
set_option maxRecDepth 100000 in
theorem k_X5_lotsFor (l : Launch) (v0 : Int32) (r0 : Int32) (hs : m_X5_lotsFor v0 = some r0) : Met l yX5_lotsFor (.code yX5_lotsFor cX5_lotsFor 3 (some .int) :: kG) rm_X5_lotsFor (fun v _ => v = ([.int v0] : List Value).toArray) (vp_Si (fun r => r = r0)) 0 0 (fun _ => False) := by
  refine kPi (own := RX5) (ty := .int) rfl (by decide) rfl ?_ (Nat.le_of_ble_eq_true rfl)
  intro p e s m args below meth c H Q CF hret ls hl
  obtain ⟨hx, hb, hml, hown, hts⟩ := id CF
  have hl : lv_has ls 3 [(0, .int v0)] := hl
  unfold m_X5_lotsFor at hs
  refine lv_iconst (v := 0) hx hb dX5_lotsFor_0 (by decide) ?_
  refine lv_istore_n (lv' := [(1, .int (0 : Int32)), (0, .int v0)]) hx hb dX5_lotsFor_1 rfl hl (by decide) rfl (fun ls hl => ?_)
  refine lv_iconst (v := 1) hx hb dX5_lotsFor_2 (by decide) ?_
  refine lv_istore_n (lv' := [(2, .int (1 : Int32)), (1, .int (0 : Int32)), (0, .int v0)]) hx hb dX5_lotsFor_3 rfl hl (by decide) rfl (fun ls hl => ?_)
  have hL_4 : ∀ (n : Nat) (v1 : Int32) (v2 : Int32) (ls : Array Slot), lv_has ls 3 [(0, .int v0), (1, .int v1), (2, .int v2)] → L_X5_lotsFor_4 v0 n v1 v2 = some r0 → W p l e rm_X5_lotsFor s m args below meth c H [] 0 0 Q (F0 m 4 ls []) := by
    intro n
    induction n with
    | zero =>
      intro v1 v2 ls hl hs
      replace hs : (none : Option (Int32)) = some r0 := hs
      cases hs
    | succ n_4 ih_4 =>
      intro v1 v2 ls hl hs
      replace hs : b_X5_lotsFor_4  (L_X5_lotsFor_4 v0 n_4) v0 v1 v2 = some r0 := hs
      unfold b_X5_lotsFor_4 at hs
      refine lv_iload_n hx hb dX5_lotsFor_4 rfl (lv_at hl 2 rfl) ?_
      refine lv_iload_n hx hb dX5_lotsFor_5 rfl (lv_at hl 0 rfl) ?_
      refine lv_icmp_ge (tgt := 19) hx hb dX5_lotsFor_6 (by decide) (fun c_1 => ?_) (fun c_1 => ?_)
      · replace hs := if_p c_1 hs
        refine lv_iload_n hx hb dX5_lotsFor_19 rfl (lv_at hl 1 rfl) ?_
        cases hs
        exact hret _ _ (vp_nar_int _) dX5_lotsFor_20
      · replace hs := if_n c_1 hs
        refine lv_iload_n hx hb dX5_lotsFor_9 rfl (lv_at hl 2 rfl) ?_
        refine lv_iconst (v := 2) hx hb dX5_lotsFor_10 (by decide) ?_
        refine lv_imul hx hb dX5_lotsFor_11 ?_
        refine lv_istore_n (lv' := [(2, .int (v2 * (2 : Int32))), (0, .int v0), (1, .int v1)]) hx hb dX5_lotsFor_12 rfl hl (by decide) rfl (fun ls hl => ?_)
        refine lv_iinc (v := (v1 + 1)) (lv' := [(1, .int (v1 + 1)), (2, .int (v2 * (2 : Int32))), (0, .int v0)]) hx hb dX5_lotsFor_13 hl (k := 2) rfl rfl (by decide) rfl (fun ls hl => ?_)
        refine lv_goto (tgt := 4) hx hb dX5_lotsFor_16 (by decide) ?_
        exact ih_4 (v1 + 1) (v2 * (2 : Int32)) _ (lv_sub hl [2, 0, 1] rfl) hs
  exact hL_4 fu (0 : Int32) (1 : Int32) _ (lv_sub hl [2, 1, 0] rfl) hs
