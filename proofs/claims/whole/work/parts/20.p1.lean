set_option maxHeartbeats 4000000 in
theorem p_part (v1 : Int32) (v2 : Int32) (v3 : Int32) (ct : Int32) (sg : Ar) (si : Int32) (ft : Int32) (th : Int32) (he : Int32) (ma : Int32) (ro : Int32) (fi : Ar) (to : Ar) (ne : Ar) (ac : Int32) (wy : Int32) (fa : Int32) (fp : Int32) (thw : Int32) (hew : Int32) (maw : Int32) (row : Int32) (fiw : Ar) (tow : Ar) (zth : Int32) (zsi : Int32) (zsn : Int32) (zre : Int32) (zac : Int32) (zfa : Int32) (zfw : Int32) (zbk : Ar) (znw : Ar) (zto : Ar) (zne : Ar) (zst : Ar) (zpd : Ar) (zcn : Ar) (zig : Ar) (zik : Ar) (hR : CR ct sg si ft th he ma ro fi to ne zth zsi zsn zbk zto zne zst zpd) : ∃ (r : Int32) (fi2 : Ar) (to2 : Ar) (zbk2 : Ar) (zto2 : Ar), m_X4_part v1 v2 v3 fi to = some (r, fi2, to2) ∧ m_X5_part v1 v2 v3 zbk zto = some (r, zbk2, zto2) ∧ CR ct sg si ft th he ma ro fi2 to2 ne zth zsi zsn zbk2 zto2 zne zst zpd := by
  obtain ⟨hp, ⟨hW, ⟨gf, gg⟩, ht, gt, hth⟩, hm, hs⟩ := hR
  by_cases h1 : 0 ≤ v1 ∧ v1 ≤ 11
  · obtain ⟨j, hj, rfl⟩ := le_lit (n := 11) (by decide) h1
    by_cases h2 : 0 ≤ v2 ∧ v2 ≤ 99
    · by_cases h3 : 0 ≤ v3 ∧ v3 ≤ 9
      · refine ⟨fi j, upd fi j v2, upd to j v3, upd zbk j v2, upd zto j v3, ?_, ?_, hp, ⟨Wn_upd hW (by omega) v2, ⟨all_upd (P := fun x => 0 ≤ x ∧ x ≤ 99) gf h2, gg⟩, eq_upd ht, all_upd (P := fun x => 0 ≤ x ∧ x ≤ 9) gt h3, hth⟩, hm, hs⟩
        · unfold m_X4_part
          rw [iso_if_p h1, iso_if_p h2, iso_if_p h3, inb_nI (show j < 12 by omega) (by decide), gd_t, nI_clamp (by omega)]
        · unfold m_X5_part
          rw [part_p (x := ()) h1, if_neg (by decide), in_if_p h2, in_if_p h3, inb_nI (show j < 15 by omega) (by decide), inb_nI (show j < 12 by omega) (by decide), gd_t, gd_t, nI_clamp (by omega), hW.1 j (by omega)]
      · refine ⟨-2, fi, to, zbk, zto, ?_, ?_, hp, ⟨hW, ⟨gf, gg⟩, ht, gt, hth⟩, hm, hs⟩
        · unfold m_X4_part; rw [iso_if_p h1, iso_if_p h2, iso_if_n h3]
        · unfold m_X5_part; rw [part_p (x := ()) h1, if_neg (by decide), in_if_p h2, in_if_n h3]
    · refine ⟨-2, fi, to, zbk, zto, ?_, ?_, hp, ⟨hW, ⟨gf, gg⟩, ht, gt, hth⟩, hm, hs⟩
      · unfold m_X4_part; rw [iso_if_p h1, iso_if_n h2]
      · unfold m_X5_part; rw [part_p (x := ()) h1, if_neg (by decide), in_if_n h2]
  · refine ⟨-1, fi, to, zbk, zto, ?_, ?_, hp, ⟨hW, ⟨gf, gg⟩, ht, gt, hth⟩, hm, hs⟩
    · unfold m_X4_part; rw [iso_if_n h1]
    · unfold m_X5_part; rw [part_n h1, if_pos rfl]
theorem thr_or (x : Int32) {j : Nat} (hj : j < 32) : (x &&& (oneB j ^^^ (-1))) ||| oneB j = x ||| oneB j := by
  apply b_ext
  intro i hi
  rw [b_or, b_and, b_or, b_not _ hi, bt_one hj hi]
  cases bt x i <;> cases decide (i = j) <;> rfl
theorem small_or {m : Nat} {x y : Int32} (h : smallB m x) (h2 : smallB m y) : smallB m (x ||| y) := fun i hi => by
  rw [b_or, h i hi, h2 i hi]; rfl
theorem small_one {m j : Nat} (hj : j < m) (hm : m ≤ 32) : smallB m (oneB j) := fun i hi => by
  by_cases h : i < 32
  · rw [bt_one (by omega) h, decide_eq_false (by omega)]
  · exact b_big (by omega)
set_option maxHeartbeats 4000000 in
theorem p_thread (v1 : Int32) (v2 : Int32) (ct : Int32) (sg : Ar) (si : Int32) (ft : Int32) (th : Int32) (he : Int32) (ma : Int32) (ro : Int32) (fi : Ar) (to : Ar) (ne : Ar) (ac : Int32) (wy : Int32) (fa : Int32) (fp : Int32) (thw : Int32) (hew : Int32) (maw : Int32) (row : Int32) (fiw : Ar) (tow : Ar) (zth : Int32) (zsi : Int32) (zsn : Int32) (zre : Int32) (zac : Int32) (zfa : Int32) (zfw : Int32) (zbk : Ar) (znw : Ar) (zto : Ar) (zne : Ar) (zst : Ar) (zpd : Ar) (zcn : Ar) (zig : Ar) (zik : Ar) (hR : CR ct sg si ft th he ma ro fi to ne zth zsi zsn zbk zto zne zst zpd) : ∃ (r : Int32) (th2 : Int32) (zth2 : Int32), m_X4_thread v1 v2 th = some (r, th2) ∧ m_X5_thread v1 v2 zth = some (r, zth2) ∧ CR ct sg si ft th2 he ma ro fi to ne zth2 zsi zsn zbk zto zne zst zpd := by
  obtain ⟨hp, ⟨hW, hG, ht, gt, hth, hsm⟩, hm, hs⟩ := hR
  subst hth
  by_cases h1 : 0 ≤ v1 ∧ v1 ≤ 11
  · obtain ⟨j, hj, rfl⟩ := le_lit (n := 11) (by decide) h1
    by_cases h2 : v2 = 0
    · have hsm2 : smallB 12 (zth &&& (oneB j ^^^ (-1))) := small_and hsm _
      refine ⟨bitsF (zth &&& (oneB j ^^^ (-1))), zth &&& (oneB j ^^^ (-1)), zth &&& (oneB j ^^^ (-1)), ?_, ?_, hp, ⟨hW, hG, ht, gt, rfl, hsm2⟩, hm, hs⟩
      · unfold m_X4_thread j_X4_thread_56
        rw [iso_if_p h1, if_pos h2]
        show some (m_J6_bitCount_0f7a4 (zth &&& (oneB j ^^^ (-1))), _) = _
        rw [pc_small hsm2]
        rfl
      · unfold m_X5_thread j_X5_thread_39
        rw [part_p (x := ()) h1, if_neg (by decide), if_pos h2, Int32.or_zero]
        show ob1 (m_X5_bits (zth &&& (oneB j ^^^ (-1)))) _ = _
        rw [bits_eq]
        rfl
    · have hsm2 : smallB 12 (zth ||| oneB j) := small_or hsm (small_one (by omega) (by decide))
      refine ⟨bitsF (zth ||| oneB j), zth ||| oneB j, zth ||| oneB j, ?_, ?_, hp, ⟨hW, hG, ht, gt, rfl, hsm2⟩, hm, hs⟩
      · unfold m_X4_thread j_X4_thread_56
        rw [iso_if_p h1, if_neg h2]
        show some (m_J6_bitCount_0f7a4 (zth ||| oneB j), _) = _
        rw [pc_small hsm2]
        rfl
      · unfold m_X5_thread j_X5_thread_39
        rw [part_p (x := ()) h1, if_neg (by decide), if_neg h2]
        show ob1 (m_X5_bits ((zth &&& (oneB j ^^^ (-1))) ||| oneB j)) (fun r => some (r, (zth &&& (oneB j ^^^ (-1))) ||| oneB j)) = _
        rw [thr_or _ (by omega), bits_eq]
        rfl
  · refine ⟨-1, zth, zth, ?_, ?_, hp, ⟨hW, hG, ht, gt, rfl, hsm⟩, hm, hs⟩
    · unfold m_X4_thread; rw [iso_if_n h1]
    · unfold m_X5_thread; rw [part_n h1, if_pos rfl]
theorem set_39 (v1 v2 : Int32) {q : Nat} (bk : Ar) (hq : v1 = nI q) (h : q ≤ 2) : j_X5_set_39 v1 v2 1 bk = some (bk (12 + q), upd bk (12 + q) v2) := by
  unfold j_X5_set_39
  rw [if_neg (by decide), hq, show (12 : Int32) + nI q = nI (12 + q) from nI_add 12 q, inb_nI (show 12 + q < 15 by omega) (by decide), gd_t, nI_clamp (by omega)]
theorem set_390 (v1 v2 : Int32) (bk : Ar) : j_X5_set_39 v1 v2 0 bk = some (-2, bk) := if_pos rfl
set_option maxHeartbeats 4000000 in
theorem p_set (v1 : Int32) (v2 : Int32) (ct : Int32) (sg : Ar) (si : Int32) (ft : Int32) (th : Int32) (he : Int32) (ma : Int32) (ro : Int32) (fi : Ar) (to : Ar) (ne : Ar) (ac : Int32) (wy : Int32) (fa : Int32) (fp : Int32) (thw : Int32) (hew : Int32) (maw : Int32) (row : Int32) (fiw : Ar) (tow : Ar) (zth : Int32) (zsi : Int32) (zsn : Int32) (zre : Int32) (zac : Int32) (zfa : Int32) (zfw : Int32) (zbk : Ar) (znw : Ar) (zto : Ar) (zne : Ar) (zst : Ar) (zpd : Ar) (zcn : Ar) (zig : Ar) (zik : Ar) (hR : CR ct sg si ft th he ma ro fi to ne zth zsi zsn zbk zto zne zst zpd) : ∃ (r : Int32) (he2 : Int32) (ma2 : Int32) (ro2 : Int32) (zbk2 : Ar), m_X4_set v1 v2 he ma ro = some (r, he2, ma2, ro2) ∧ m_X5_set v1 v2 zbk = some (r, zbk2) ∧ CR ct sg si ft th he2 ma2 ro2 fi to ne zth zsi zsn zbk2 zto zne zst zpd := by
  obtain ⟨hp, ⟨hW, hG, ht, gt, hth⟩, hm, hs⟩ := hR
  obtain ⟨w1, w2, w3, w4⟩ := hW
  obtain ⟨g1, g2, g3, g4⟩ := hG
  have fi12 : ∀ (v : Int32) (q : Nat), 12 ≤ q → ∀ i, i < 12 → upd zbk q v i = fi i := fun v q hq i hi => by rw [upd_ne (by omega)]; exact w1 i hi
  have ref : ∀ (e1 : m_X4_set v1 v2 he ma ro = some (-2, he, ma, ro)) (e2 : m_X5_set v1 v2 zbk = some (-2, zbk)), ∃ (r : Int32) (he2 : Int32) (ma2 : Int32) (ro2 : Int32) (zbk2 : Ar), m_X4_set v1 v2 he ma ro = some (r, he2, ma2, ro2) ∧ m_X5_set v1 v2 zbk = some (r, zbk2) ∧ CR ct sg si ft th he2 ma2 ro2 fi to ne zth zsi zsn zbk2 zto zne zst zpd :=
    fun e1 e2 => ⟨-2, he, ma, ro, zbk, e1, e2, hp, ⟨⟨w1, w2, w3, w4⟩, ⟨g1, g2, g3, g4⟩, ht, gt, hth⟩, hm, hs⟩
  by_cases c0 : v1 = 0
  · subst c0
    have e5 : m_X5_set 0 v2 zbk = if m_X5_in v2 0 99 = 0 then j_X5_set_39 0 v2 0 zbk else j_X5_set_39 0 v2 1 zbk := rfl
    by_cases h : 0 ≤ v2 ∧ v2 ≤ 99
    · refine ⟨he, v2, ma, ro, upd zbk 12 v2, ?_, ?_, hp, ⟨⟨fi12 v2 12 (by decide), upd_at, ?_, ?_⟩, ⟨g1, h, g3, g4⟩, ht, gt, hth⟩, hm, hs⟩
      · show (if m_X4_isOutside v2 0 99 = 0 then _ else _) = _
        rw [iso_if_p h]; rfl
      · rw [e5, in_if_p h, set_39 0 v2 zbk (q := 0) rfl (by decide), w2]
      · rw [upd_ne (by decide)]; exact w3
      · rw [upd_ne (by decide)]; exact w4
    · refine ref ?_ ?_
      · show (if m_X4_isOutside v2 0 99 = 0 then _ else _) = _
        rw [iso_if_n h]
      · rw [e5, in_if_n h, set_390]
  by_cases c1 : v1 = 1
  · subst c1
    have e5 : m_X5_set 1 v2 zbk = j_X5_set_39 1 v2 (m_X5_in v2 0 12) zbk := rfl
    by_cases h : 0 ≤ v2 ∧ v2 ≤ 12
    · refine ⟨ma, he, v2, ro, upd zbk 13 v2, ?_, ?_, hp, ⟨⟨fi12 v2 13 (by decide), ?_, upd_at, ?_⟩, ⟨g1, g2, h, g4⟩, ht, gt, hth⟩, hm, hs⟩
      · show (if m_X4_isOutside v2 0 12 = 0 then _ else _) = _
        rw [iso_if_p h]; rfl
      · rw [e5, in_p h, set_39 1 v2 zbk (q := 1) rfl (by decide), w3]
      · rw [upd_ne (by decide)]; exact w2
      · rw [upd_ne (by decide)]; exact w4
    · refine ref ?_ ?_
      · show (if m_X4_isOutside v2 0 12 = 0 then _ else _) = _
        rw [iso_if_n h]
      · rw [e5, in_n h, set_390]
  by_cases c2 : v1 = 2
  · subst c2
    have e5 : m_X5_set 2 v2 zbk = if m_X5_in v2 0 99 = 0 then j_X5_set_39 2 v2 0 zbk else j_X5_set_39 2 v2 1 zbk := rfl
    by_cases h : 0 ≤ v2 ∧ v2 ≤ 99
    · refine ⟨ro, he, ma, v2, upd zbk 14 v2, ?_, ?_, hp, ⟨⟨fi12 v2 14 (by decide), ?_, ?_, upd_at⟩, ⟨g1, g2, g3, h⟩, ht, gt, hth⟩, hm, hs⟩
      · show (if m_X4_isOutside v2 0 99 = 0 then _ else _) = _
        rw [iso_if_p h]; rfl
      · rw [e5, in_if_p h, set_39 2 v2 zbk (q := 2) rfl (by decide), w4]
      · rw [upd_ne (by decide)]; exact w2
      · rw [upd_ne (by decide)]; exact w3
    · refine ref ?_ ?_
      · show (if m_X4_isOutside v2 0 99 = 0 then _ else _) = _
        rw [iso_if_n h]
      · rw [e5, in_if_n h, set_390]
  refine ref ?_ ?_
  · unfold m_X4_set
    rw [if_neg c0, if_neg c1, if_neg c2]
  · unfold m_X5_set
    have hno : ¬ (0 ≤ v1 ∧ v1 ≤ 2) := by
      intro q
      obtain ⟨j, hj, rfl⟩ := le_lit (n := 2) (by decide) q
      rcases (show j = 0 ∨ j = 1 ∨ j = 2 by omega) with rfl | rfl | rfl
      · exact c0 rfl
      · exact c1 rfl
      · exact c2 rfl
    rw [if_neg c1, in_if_n hno, set_390]
set_option maxHeartbeats 4000000 in
theorem p_man (v1 : Int32) (v2 : Int32) (ct : Int32) (sg : Ar) (si : Int32) (ft : Int32) (th : Int32) (he : Int32) (ma : Int32) (ro : Int32) (fi : Ar) (to : Ar) (ne : Ar) (ac : Int32) (wy : Int32) (fa : Int32) (fp : Int32) (thw : Int32) (hew : Int32) (maw : Int32) (row : Int32) (fiw : Ar) (tow : Ar) (zth : Int32) (zsi : Int32) (zsn : Int32) (zre : Int32) (zac : Int32) (zfa : Int32) (zfw : Int32) (zbk : Ar) (znw : Ar) (zto : Ar) (zne : Ar) (zst : Ar) (zpd : Ar) (zcn : Ar) (zig : Ar) (zik : Ar) (hR : CR ct sg si ft th he ma ro fi to ne zth zsi zsn zbk zto zne zst zpd) : ∃ (r : Int32) (ne2 : Ar) (zne2 : Ar), m_X4_man v1 v2 ne = some (r, ne2) ∧ m_X5_man v1 v2 zne = some (r, zne2) ∧ CR ct sg si ft th he ma ro fi to ne2 zth zsi zsn zbk zto zne2 zst zpd := by
  obtain ⟨hp, hw, ⟨hm, hm2⟩, hs⟩ := hR
  by_cases h1 : 0 ≤ v1 ∧ v1 ≤ 7
  · obtain ⟨j, hj, rfl⟩ := le_lit (n := 7) (by decide) h1
    by_cases h2 : 0 ≤ v2 ∧ v2 ≤ 8
    · refine ⟨ne j, upd ne j v2, upd zne j v2, ?_, ?_, hp, hw, ⟨eq_upd hm, all_upd (P := fun x => 0 ≤ x ∧ x ≤ 8) hm2 h2⟩, hs⟩
      · unfold m_X4_man; rw [iso_if_p h1, iso_if_p h2, inb_nI (show j < 8 by omega) (by decide), gd_t, nI_clamp (by omega)]
      · unfold m_X5_man; rw [in_if_p h1, in_if_p h2, inb_nI (show j < 8 by omega) (by decide), gd_t, nI_clamp (by omega), hm j (by omega)]
    · refine ⟨-2, ne, zne, ?_, ?_, hp, hw, ⟨hm, hm2⟩, hs⟩
      · unfold m_X4_man; rw [iso_if_p h1, iso_if_n h2]
      · unfold m_X5_man; rw [in_if_p h1, in_if_n h2]
  · refine ⟨-1, ne, zne, ?_, ?_, hp, hw, ⟨hm, hm2⟩, hs⟩
    · unfold m_X4_man; rw [iso_if_n h1]
    · unfold m_X5_man; rw [in_if_n h1]
set_option maxHeartbeats 4000000 in
theorem p_say (v1 : Int32) (ct : Int32) (sg : Ar) (si : Int32) (ft : Int32) (th : Int32) (he : Int32) (ma : Int32) (ro : Int32) (fi : Ar) (to : Ar) (ne : Ar) (ac : Int32) (wy : Int32) (fa : Int32) (fp : Int32) (thw : Int32) (hew : Int32) (maw : Int32) (row : Int32) (fiw : Ar) (tow : Ar) (zth : Int32) (zsi : Int32) (zsn : Int32) (zre : Int32) (zac : Int32) (zfa : Int32) (zfw : Int32) (zbk : Ar) (znw : Ar) (zto : Ar) (zne : Ar) (zst : Ar) (zpd : Ar) (zcn : Ar) (zig : Ar) (zik : Ar) (hR : CR ct sg si ft th he ma ro fi to ne zth zsi zsn zbk zto zne zst zpd) : ∃ (r : Int32) (ct2 : Int32) (sg2 : Ar) (zsn2 : Int32) (zpd2 : Ar), m_X4_say v1 ct sg = some (r, ct2, sg2) ∧ m_X5_say v1 zsn zpd = some (r, zsn2, zpd2) ∧ CR ct2 sg2 si ft th he ma ro fi to ne zth zsi zsn2 zbk zto zne zst zpd2 := by
  obtain ⟨⟨k, hk, rfl, rfl, hp⟩, hr⟩ := hR
  by_cases h1 : 33 ≤ v1 ∧ v1 ≤ 126
  · rcases Nat.lt_or_ge k 60 with h | h
    · refine ⟨nI (k + 1), nI (k + 1), upd sg k v1, nI (k + 1), upd zpd k v1, ?_, ?_, ⟨k + 1, by omega, rfl, rfl, ?_⟩, hr⟩
      · unfold m_X4_say m_X0_write
        rw [iso_if_p h1, if_pos (show nI k < 60 from nI_lt (b := 60) h (by decide)), inb_nI h (by decide), gd_t, nI_clamp (by omega), nI_1]
        rfl
      · unfold m_X5_say
        rw [in_if_p h1, if_neg (fun q => by rw [show (60 : Int32) = nI 60 from rfl, nI_eq (by omega) (by decide)] at q; omega), inb_nI h (by decide), gd_t, nI_clamp (by omega), nI_1]
      · intro i hi
        by_cases e : i = k
        · rw [e, upd_at, upd_at]
        · rw [upd_ne e, upd_ne e]; exact hp i (by omega)
    · have e : k = 60 := by omega
      subst e
      refine ⟨-4, nI 60, sg, nI 60, zpd, ?_, ?_, ⟨60, hk, rfl, rfl, hp⟩, hr⟩
      · unfold m_X4_say m_X0_write
        rw [iso_if_p h1, if_neg (by decide)]
        rfl
      · unfold m_X5_say
        rw [in_if_p h1, if_pos (show nI 60 = 60 from rfl)]
  · refine ⟨-2, nI k, sg, nI k, zpd, ?_, ?_, ⟨k, hk, rfl, rfl, hp⟩, hr⟩
    · unfold m_X4_say; rw [iso_if_n h1]
    · unfold m_X5_say; rw [in_if_n h1]
set_option maxHeartbeats 4000000 in
theorem p_wipe  (ct : Int32) (sg : Ar) (si : Int32) (ft : Int32) (th : Int32) (he : Int32) (ma : Int32) (ro : Int32) (fi : Ar) (to : Ar) (ne : Ar) (ac : Int32) (wy : Int32) (fa : Int32) (fp : Int32) (thw : Int32) (hew : Int32) (maw : Int32) (row : Int32) (fiw : Ar) (tow : Ar) (zth : Int32) (zsi : Int32) (zsn : Int32) (zre : Int32) (zac : Int32) (zfa : Int32) (zfw : Int32) (zbk : Ar) (znw : Ar) (zto : Ar) (zne : Ar) (zst : Ar) (zpd : Ar) (zcn : Ar) (zig : Ar) (zik : Ar) (hR : CR ct sg si ft th he ma ro fi to ne zth zsi zsn zbk zto zne zst zpd) : ∃ (r : Int32) (ct2 : Int32) (zsn2 : Int32), m_X4_wipe ct = some (r, ct2) ∧ m_X5_wipe zsn = some (r, zsn2) ∧ CR ct2 sg si ft th he ma ro fi to ne zth zsi zsn2 zbk zto zne zst zpd := by
  obtain ⟨⟨k, hk, rfl, rfl, hp⟩, hr⟩ := hR
  exact ⟨nI k, 0, 0, rfl, rfl, ⟨0, by decide, rfl, rfl, fun i hi => by omega⟩, hr⟩
set_option maxHeartbeats 4000000 in
theorem p_fault  (ct : Int32) (sg : Ar) (si : Int32) (ft : Int32) (th : Int32) (he : Int32) (ma : Int32) (ro : Int32) (fi : Ar) (to : Ar) (ne : Ar) (ac : Int32) (wy : Int32) (fa : Int32) (fp : Int32) (thw : Int32) (hew : Int32) (maw : Int32) (row : Int32) (fiw : Ar) (tow : Ar) (zth : Int32) (zsi : Int32) (zsn : Int32) (zre : Int32) (zac : Int32) (zfa : Int32) (zfw : Int32) (zbk : Ar) (znw : Ar) (zto : Ar) (zne : Ar) (zst : Ar) (zpd : Ar) (zcn : Ar) (zig : Ar) (zik : Ar) (hR : CR ct sg si ft th he ma ro fi to ne zth zsi zsn zbk zto zne zst zpd) : ∃ (r : Int32), m_X4_fault ct sg = some r ∧ m_X5_fault zsn zpd = some r ∧ CR ct sg si ft th he ma ro fi to ne zth zsi zsn zbk zto zne zst zpd := by
  obtain ⟨r, h1, h2, -⟩ := fault_both hR.1
  refine ⟨r, ?_, ?_, hR⟩
  · unfold m_X4_fault; rw [h1]; rfl
  · unfold m_X5_fault; rw [h2]; rfl
set_option maxHeartbeats 4000000 in
theorem p_down  (ct : Int32) (sg : Ar) (si : Int32) (ft : Int32) (th : Int32) (he : Int32) (ma : Int32) (ro : Int32) (fi : Ar) (to : Ar) (ne : Ar) (ac : Int32) (wy : Int32) (fa : Int32) (fp : Int32) (thw : Int32) (hew : Int32) (maw : Int32) (row : Int32) (fiw : Ar) (tow : Ar) (zth : Int32) (zsi : Int32) (zsn : Int32) (zre : Int32) (zac : Int32) (zfa : Int32) (zfw : Int32) (zbk : Ar) (znw : Ar) (zto : Ar) (zne : Ar) (zst : Ar) (zpd : Ar) (zcn : Ar) (zig : Ar) (zik : Ar) (hR : CR ct sg si ft th he ma ro fi to ne zth zsi zsn zbk zto zne zst zpd) : ∃ (r : Int32) (znw2 : Ar), m_X4_down fi = some r ∧ m_X5_down zbk znw = some (r, znw2) ∧ CR ct sg si ft th he ma ro fi to ne zth zsi zsn zbk zto zne zst zpd := by
  obtain ⟨hp, ⟨hW, hr⟩, hm⟩ := hR
  refine ⟨dbF fi, amap 0 15 (fun j _ => zbk j) znw, ?_, ?_, hp, ⟨hW, hr⟩, hm⟩
  · unfold m_X4_down; rw [x3_down]; rfl
  · unfold m_X5_down; rw [x5_asNow, ob1_s, x5_down, ob1_s, dbF_c (g := fi) (fun i hi => by rw [amap_in (Nat.zero_le _) (by omega)]; exact hW.1 i hi)]
set_option maxHeartbeats 4000000 in
theorem p_seen (v1 : Int32) (v2 : Int32) (ct : Int32) (sg : Ar) (si : Int32) (ft : Int32) (th : Int32) (he : Int32) (ma : Int32) (ro : Int32) (fi : Ar) (to : Ar) (ne : Ar) (ac : Int32) (wy : Int32) (fa : Int32) (fp : Int32) (thw : Int32) (hew : Int32) (maw : Int32) (row : Int32) (fiw : Ar) (tow : Ar) (zth : Int32) (zsi : Int32) (zsn : Int32) (zre : Int32) (zac : Int32) (zfa : Int32) (zfw : Int32) (zbk : Ar) (znw : Ar) (zto : Ar) (zne : Ar) (zst : Ar) (zpd : Ar) (zcn : Ar) (zig : Ar) (zik : Ar) (hR : CR ct sg si ft th he ma ro fi to ne zth zsi zsn zbk zto zne zst zpd) : ∃ (r : Int32) (si2 : Int32) (ft2 : Int32) (zsi2 : Int32) (zst2 : Ar), m_X4_seen v1 v2 si ft = some (r, si2, ft2) ∧ m_X5_seen v1 v2 zsi zst = some (r, zsi2, zst2) ∧ CR ct sg si2 ft2 th he ma ro fi to ne zth zsi2 zsn zbk zto zne zst2 zpd := by
  obtain ⟨hp, hw, hm, ⟨k, hk, rfl, rfl, rfl⟩⟩ := hR
  by_cases h1 : 0 ≤ v1 ∧ v1 ≤ 9
  · by_cases h2 : 0 ≤ v2 ∧ v2 ≤ 2
    · rcases Nat.lt_or_ge k 8 with h | h
      · refine ⟨nI (k + 1), nI (k + 1), tsF k zst &&& gor (fun t => decide (m_X4_echo v1 (nI t) = v2)) 10, nI (k + 1), upd (upd zst (2 * k) v1) (2 * k + 1) v2, ?_, ?_, hp, hw, hm, ⟨k + 1, by omega, rfl, rfl, (seen_ts zst k v1 v2).symm⟩⟩
        · unfold m_X4_seen
          rw [iso_if_p h1, iso_if_p h2, if_pos (show nI k < 8 from nI_lt (b := 8) h (by decide)), x4_ta, ob1_s, nI_1]
        · unfold m_X5_seen
          rw [in_if_p h1, in_if_p h2, if_neg (fun q => by rw [show (8 : Int32) = nI 8 from rfl, nI_eq (by omega) (by decide)] at q; omega), show (2 : Int32) * nI k = nI (2 * k) from pk_mul 2 k, nI_1, nI_1, inb_nI (show 2 * k < 16 by omega) (by decide), inb_nI (show 2 * k + 1 < 16 by omega) (by decide), gd_t, gd_t, nI_clamp (by omega), nI_clamp (by omega)]
      · have e : k = 8 := by omega
        subst e
        refine ⟨-4, nI 8, tsF 8 zst, nI 8, zst, ?_, ?_, hp, hw, hm, ⟨8, hk, rfl, rfl, rfl⟩⟩
        · unfold m_X4_seen; rw [iso_if_p h1, iso_if_p h2, if_neg (by decide)]
        · unfold m_X5_seen; rw [in_if_p h1, in_if_p h2, if_pos (show nI 8 = 8 from rfl)]
    · refine ⟨-2, nI k, tsF k zst, nI k, zst, ?_, ?_, hp, hw, hm, ⟨k, hk, rfl, rfl, rfl⟩⟩
      · unfold m_X4_seen; rw [iso_if_p h1, iso_if_n h2]
      · unfold m_X5_seen; rw [in_if_p h1, in_if_n h2]
  · refine ⟨-2, nI k, tsF k zst, nI k, zst, ?_, ?_, hp, hw, hm, ⟨k, hk, rfl, rfl, rfl⟩⟩
    · unfold m_X4_seen; rw [iso_if_n h1]
    · unfold m_X5_seen; rw [in_if_n h1]
set_option maxHeartbeats 4000000 in
theorem p_forget  (ct : Int32) (sg : Ar) (si : Int32) (ft : Int32) (th : Int32) (he : Int32) (ma : Int32) (ro : Int32) (fi : Ar) (to : Ar) (ne : Ar) (ac : Int32) (wy : Int32) (fa : Int32) (fp : Int32) (thw : Int32) (hew : Int32) (maw : Int32) (row : Int32) (fiw : Ar) (tow : Ar) (zth : Int32) (zsi : Int32) (zsn : Int32) (zre : Int32) (zac : Int32) (zfa : Int32) (zfw : Int32) (zbk : Ar) (znw : Ar) (zto : Ar) (zne : Ar) (zst : Ar) (zpd : Ar) (zcn : Ar) (zig : Ar) (zik : Ar) (hR : CR ct sg si ft th he ma ro fi to ne zth zsi zsn zbk zto zne zst zpd) : ∃ (r : Int32) (si2 : Int32) (ft2 : Int32) (zsi2 : Int32), m_X4_forget si = some (r, si2, ft2) ∧ m_X5_forget zsi = some (r, zsi2) ∧ CR ct sg si2 ft2 th he ma ro fi to ne zth zsi2 zsn zbk zto zne zst zpd := by
  obtain ⟨hp, hw, hm, ⟨k, hk, rfl, rfl, rfl⟩⟩ := hR
  exact ⟨nI k, 0, 1023, 0, rfl, rfl, hp, hw, hm, ⟨0, by decide, rfl, rfl, (ts_0 zst).symm⟩⟩
set_option maxHeartbeats 4000000 in
theorem p_tones  (ct : Int32) (sg : Ar) (si : Int32) (ft : Int32) (th : Int32) (he : Int32) (ma : Int32) (ro : Int32) (fi : Ar) (to : Ar) (ne : Ar) (ac : Int32) (wy : Int32) (fa : Int32) (fp : Int32) (thw : Int32) (hew : Int32) (maw : Int32) (row : Int32) (fiw : Ar) (tow : Ar) (zth : Int32) (zsi : Int32) (zsn : Int32) (zre : Int32) (zac : Int32) (zfa : Int32) (zfw : Int32) (zbk : Ar) (znw : Ar) (zto : Ar) (zne : Ar) (zst : Ar) (zpd : Ar) (zcn : Ar) (zig : Ar) (zik : Ar) (hR : CR ct sg si ft th he ma ro fi to ne zth zsi zsn zbk zto zne zst zpd) : ∃ (r : Int32), m_X4_tones ft = r ∧ m_X5_tones zsi zst = some r ∧ CR ct sg si ft th he ma ro fi to ne zth zsi zsn zbk zto zne zst zpd := by
  obtain ⟨hp, hw, hm, ⟨k, hk, rfl, rfl, rfl⟩⟩ := hR
  refine ⟨tsF k zst, rfl, ?_, hp, hw, hm, ⟨k, hk, rfl, rfl, rfl⟩⟩
  unfold m_X5_tones
  rw [x5_toneSet hk]
  rfl
