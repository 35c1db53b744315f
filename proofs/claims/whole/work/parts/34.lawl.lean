theorem and31 (x : Int32) : ∃ k : Nat, k < 32 ∧ x &&& 31 = nI k := by
  have h : smallB 5 (x &&& 31) := fun i hi => by
    rw [b_and]
    by_cases h : i < 32
    · rw [(by decide +kernel : ∀ i, i < 32 → bt 31 i = decide (i < 5)) i h, decide_eq_false (by omega), Bool.and_false]
    · rw [b_big (by omega), Bool.false_and]
  obtain ⟨k, h1, h2⟩ := nI_small (m := 5) (by decide) h
  exact ⟨k, h1, h2⟩
set_option maxHeartbeats 4000000 in
set_option maxRecDepth 100000 in
/-- the law's loop: at its head, with i numbers read, both sides agree -/
theorem law_loop {p : Program} {l : Launch} {e : Env} {s : State} {m : MethodId} {below : List Frame} {meth : Method} {c : Code} {dC : Nat → ClassId} {dI : Nat → Nat → Nat} {cI cZ cS : ClassId} {b L : Nat} {xs : Nat → Int32} (hL : L ≤ 320) (C0 : lw_At p s m meth c b L xs) (hK : va_K (dC, dI) vwCl (kT cI cZ cS) s) (hN : kN s) {qx qm : Nat} :
    ∀ (n i : Nat), i ≤ L → L + 1 ≤ i + n → ∀ (H : Heap) (locs : List Loc) (ls : Array Slot), LI dC dI cI cZ cS (LA s) 0 qx qm H → va_S (LA s) s.heap H locs → lv_has ls 4 [(0, .ref b), (1, .ref qx), (2, .ref qm), (3, .int (nI i))] → W p l e room_1 s m #[Value.ref b] below meth c H locs (23 + i) (412 + 9 * i) (lw_Z below #[Value.ref b] s) (F0 m 18 ls []) := by
  obtain ⟨hx, hb, hr, hml, hown, hts, hX, hbl, hlocks, hgv⟩ := id C0
  have hbA : ¬ LA s b := Nat.not_le.mpr hbl
  intro n
  induction n with
  | zero =>
    intro i h1 h2
    exact absurd h2 (by omega)
  | succ n ih =>
    intro i hi hin H locs ls hLI hS hl
    have kk : ∀ (H1 : Heap) (locs1 : List Loc), i + 5 ≤ L → LI dC dI cI cZ cS (LA s) 0 qx qm H1 → va_S (LA s) s.heap H1 locs1 → W p l e room_1 s m #[Value.ref b] below meth c H1 locs1 (23 + i + 5) (412 + 9 * i + 45) (lw_Z below #[Value.ref b] s) (F0 m 988 ls []) := by
      intro H1 locs1 h5 hLI hS
      refine lv_iinc (v := nI (i + 5)) (lv' := [(3, .int (nI (i + 5))), (0, .ref b), (1, .ref qx), (2, .ref qm)]) hx hb dL_law_988 hl (k := 3) rfl (nI_add i 5) (by decide) rfl (fun ls hl => ?_)
      refine lv_goto (tgt := 18) hx hb dL_law_991 (by decide) ?_
      refine W.widen (k := 23 + (i + 5)) (n := 412 + 9 * (i + 5)) (by omega) (by omega) ?_
      exact ih (i + 5) h5 (by omega) H1 locs1 ls hLI hS (lv_sub hl [1, 2, 3, 0] rfl)
    refine lv_iload_n hx hb dL_law_18 rfl (lv_at hl 3 rfl) ?_
    refine lv_aload_n hx hb dL_law_19 rfl (lv_at hl 0 rfl) ?_
    refine va_slen hx hb hX hbl hbA hS dL_law_20 ?_
    refine lv_iconst (v := 5) hx hb dL_law_21 (by decide) ?_
    refine lv_isub hx hb dL_law_22 ?_
    refine lv_icmp_gt (tgt := 994) hx hb dL_law_23 (by decide) (fun c1 => ?_) (fun c1 => ?_)
    · refine lv_iconst (v := 1) hx hb dL_law_994 (by decide) ?_
      refine va_forget (fun q hq => hS.2.2 q hq) ?_
      refine W.widen (k := 600000) (n := 7302250) (by omega) (by omega) ?_
      exact lw_ret hx hb hr hlocks dL_law_995
    · have h5 : i + 5 ≤ L := by
        rw [Int32.lt_iff_toInt_lt, show Int32.ofNat L - 5 = nI L - nI 5 from rfl, pk_sub_toInt (by omega) (by decide), nI_toInt (by omega)] at c1
        omega
      have kk := fun H1 locs1 => kk H1 locs1 h5
      have hcs : 23 + i ≤ 5000 ∧ 412 + 9 * i ≤ 50000 := by omega
      refine lv_aload_n hx hb dL_law_26 rfl (lv_at hl 0 rfl) ?_
      refine lv_iload_n hx hb dL_law_27 rfl (lv_at hl 3 rfl) ?_
      refine va_sld hx hb hX hbl hbA hS (vp_in_nI (by omega) (by omega)) dL_law_28 ?_
      refine lv_bipush (v := 31) hx hb dL_law_29 (by decide) ?_
      refine lv_iand hx hb dL_law_31 ?_
      obtain ⟨k, hk, ek⟩ := and31 (xs (nI i).toNatClampNeg)
      rw [ek]
      by_cases h29 : 29 ≤ k
      · refine lv_tableOut (tgt := 988) hx hb dL_law_32 (Or.inr ?_) (by decide) ?_
        · rw [nI_toInt (by omega)]; omega
        · refine W.widen (k := 23 + i + 5) (n := 412 + 9 * i + 45) (by omega) (by omega) ?_
          exact kk H locs hLI hS
      · rcases (show k = 0 ∨ k = 1 ∨ k = 2 ∨ k = 3 ∨ k = 4 ∨ k = 5 ∨ k = 6 ∨ k = 7 ∨ k = 8 ∨ k = 9 ∨ k = 10 ∨ k = 11 ∨ k = 12 ∨ k = 13 ∨ k = 14 ∨ k = 15 ∨ k = 16 ∨ k = 17 ∨ k = 18 ∨ k = 19 ∨ k = 20 ∨ k = 21 ∨ k = 22 ∨ k = 23 ∨ k = 24 ∨ k = 25 ∨ k = 26 ∨ k = 27 ∨ k = 28 by omega) with rfl | rfl | rfl | rfl | rfl | rfl | rfl | rfl | rfl | rfl | rfl | rfl | rfl | rfl | rfl | rfl | rfl | rfl | rfl | rfl | rfl | rfl | rfl | rfl | rfl | rfl | rfl | rfl | rfl
        · refine lv_tableIn (off := 132) (tgt := 164) hx hb dL_law_32 (by decide) (by decide) rfl (by decide) ?_
          exact lc_part C0 hK hN hL h5 hLI hS hl hcs kk
        · refine lv_tableIn (off := 175) (tgt := 207) hx hb dL_law_32 (by decide) (by decide) rfl (by decide) ?_
          exact lc_thread C0 hK hN hL h5 hLI hS hl hcs kk
        · refine lv_tableIn (off := 224) (tgt := 256) hx hb dL_law_32 (by decide) (by decide) rfl (by decide) ?_
          exact lc_set C0 hK hN hL h5 hLI hS hl hcs kk
        · refine lv_tableIn (off := 257) (tgt := 289) hx hb dL_law_32 (by decide) (by decide) rfl (by decide) ?_
          exact lc_man C0 hK hN hL h5 hLI hS hl hcs kk
        · refine lv_tableIn (off := 290) (tgt := 322) hx hb dL_law_32 (by decide) (by decide) rfl (by decide) ?_
          exact lc_say C0 hK hN hL h5 hLI hS hl hcs kk
        · refine lv_tableIn (off := 313) (tgt := 345) hx hb dL_law_32 (by decide) (by decide) rfl (by decide) ?_
          exact lc_wipe C0 hK hN hL h5 hLI hS hl hcs kk
        · refine lv_tableIn (off := 326) (tgt := 358) hx hb dL_law_32 (by decide) (by decide) rfl (by decide) ?_
          exact lc_fault C0 hK hN hL h5 hLI hS hl hcs kk
        · refine lv_tableIn (off := 339) (tgt := 371) hx hb dL_law_32 (by decide) (by decide) rfl (by decide) ?_
          exact lc_judge C0 hK hN hL h5 hLI hS hl hcs kk
        · refine lv_tableIn (off := 362) (tgt := 394) hx hb dL_law_32 (by decide) (by decide) rfl (by decide) ?_
          exact lc_done C0 hK hN hL h5 hLI hS hl hcs kk
        · refine lv_tableIn (off := 375) (tgt := 407) hx hb dL_law_32 (by decide) (by decide) rfl (by decide) ?_
          exact lc_behind C0 hK hN hL h5 hLI hS hl hcs kk
        · refine lv_tableIn (off := 398) (tgt := 430) hx hb dL_law_32 (by decide) (by decide) rfl (by decide) ?_
          exact lc_then C0 hK hN hL h5 hLI hS hl hcs kk
        · refine lv_tableIn (off := 421) (tgt := 453) hx hb dL_law_32 (by decide) (by decide) rfl (by decide) ?_
          exact lc_fell C0 hK hN hL h5 hLI hS hl hcs kk
        · refine lv_tableIn (off := 444) (tgt := 476) hx hb dL_law_32 (by decide) (by decide) rfl (by decide) ?_
          exact lc_down C0 hK hN hL h5 hLI hS hl hcs kk
        · refine lv_tableIn (off := 457) (tgt := 489) hx hb dL_law_32 (by decide) (by decide) rfl (by decide) ?_
          exact lc_shout C0 hK hN hL h5 hLI hS hl hcs kk
        · refine lv_tableIn (off := 480) (tgt := 512) hx hb dL_law_32 (by decide) (by decide) rfl (by decide) ?_
          exact lc_horns C0 hK hN hL h5 hLI hS hl hcs kk
        · refine lv_tableIn (off := 513) (tgt := 545) hx hb dL_law_32 (by decide) (by decide) rfl (by decide) ?_
          exact lc_weakest C0 hK hN hL h5 hLI hS hl hcs kk
        · refine lv_tableIn (off := 546) (tgt := 578) hx hb dL_law_32 (by decide) (by decide) rfl (by decide) ?_
          exact lc_watch C0 hK hN hL h5 hLI hS hl hcs kk
        · refine lv_tableIn (off := 589) (tgt := 621) hx hb dL_law_32 (by decide) (by decide) rfl (by decide) ?_
          exact lc_seen C0 hK hN hL h5 hLI hS hl hcs kk
        · refine lv_tableIn (off := 622) (tgt := 654) hx hb dL_law_32 (by decide) (by decide) rfl (by decide) ?_
          exact lc_forget C0 hK hN hL h5 hLI hS hl hcs kk
        · refine lv_tableIn (off := 635) (tgt := 667) hx hb dL_law_32 (by decide) (by decide) rfl (by decide) ?_
          exact lc_tones C0 hK hN hL h5 hLI hS hl hcs kk
        · refine lv_tableIn (off := 648) (tgt := 680) hx hb dL_law_32 (by decide) (by decide) rfl (by decide) ?_
          exact lc_next C0 hK hN hL h5 hLI hS hl hcs kk
        · refine lv_tableIn (off := 671) (tgt := 703) hx hb dL_law_32 (by decide) (by decide) rfl (by decide) ?_
          exact lc_chain C0 hK hN hL h5 hLI hS hl hcs kk
        · refine lv_tableIn (off := 694) (tgt := 726) hx hb dL_law_32 (by decide) (by decide) rfl (by decide) ?_
          exact lc_quiet C0 hK hN hL h5 hLI hS hl hcs kk
        · refine lv_tableIn (off := 737) (tgt := 769) hx hb dL_law_32 (by decide) (by decide) rfl (by decide) ?_
          exact lc_water C0 hK hN hL h5 hLI hS hl hcs kk
        · refine lv_tableIn (off := 791) (tgt := 823) hx hb dL_law_32 (by decide) (by decide) rfl (by decide) ?_
          exact lc_lots C0 hK hN hL h5 hLI hS hl hcs kk
        · refine lv_tableIn (off := 844) (tgt := 876) hx hb dL_law_32 (by decide) (by decide) rfl (by decide) ?_
          exact lc_day C0 hK hN hL h5 hLI hS hl hcs kk
        · refine lv_tableIn (off := 887) (tgt := 919) hx hb dL_law_32 (by decide) (by decide) rfl (by decide) ?_
          exact lc_image C0 hK hN hL h5 hLI hS hl hcs kk
        · refine lv_tableIn (off := 910) (tgt := 942) hx hb dL_law_32 (by decide) (by decide) rfl (by decide) ?_
          exact lc_restore C0 hK hN hL h5 hLI hS hl hcs kk
        · refine lv_tableIn (off := 933) (tgt := 965) hx hb dL_law_32 (by decide) (by decide) rfl (by decide) ?_
          exact lc_told C0 hK hN hL h5 hLI hS hl hcs kk
