/-! a day by draws -/
theorem sgn_ok : ∀ h : Fin 8, m_X3_drawnSign (nI h.val) = 46 ∨ m_X3_drawnSign (nI h.val) = 104 ∨ m_X3_drawnSign (nI h.val) = 33 ∨ m_X3_drawnSign (nI h.val) = 110 := by decide +kernel
theorem sgn_eq {R : Type} (j : Int32 → R) (h : Nat) (hh : h < 8) : (if (4 : Int32) ≤ nI h then (if (6 : Int32) ≤ nI h then (if nI h = 6 then j 33 else j 110) else j 104) else j 46) = j (m_X3_drawnSign (nI h)) := by
  rcases (show h = 0 ∨ h = 1 ∨ h = 2 ∨ h = 3 ∨ h = 4 ∨ h = 5 ∨ h = 6 ∨ h = 7 by omega) with rfl | rfl | rfl | rfl | rfl | rfl | rfl | rfl <;> rfl
theorem draw_x {s : Nat} (hs : s < 65537) : irem ((75 * nI s) + 74) 65537 = nI ((75 * s + 74) % 65537) := by
  rw [show (75 : Int32) * nI s = nI (75 * s) from pk_mul 75 s, show nI (75 * s) + 74 = nI (75 * s + 74) from nI_add (75 * s) 74]
  exact pk_rem (d := 65537) (by omega) (by decide) (by decide)
theorem draw_8 {s : Nat} (hs : s < 65537) : irem (nI s) 8 = nI (s % 8) := pk_rem (d := 8) (by omega) (by decide) (by decide)
theorem draw_10 {s : Nat} (hs : s < 65537) : irem (nI s / 8) 10 = nI (s / 8 % 10) := by
  rw [show nI s / 8 = nI (s / 8) from pk_div (d := 8) (by omega) (by decide) (by decide)]
  exact pk_rem (d := 10) (by omega) (by decide) (by decide)
def dayX (v3 : Int32) (nw : Ar) : Option (Int32 × Ar) := if v3 = 0 then some (bitsF (dbF nw), nw) else if v3 = 1 then some (nw 12, nw) else some (nw 14, nw)
theorem day_sim {m : Nat} (hm : m ≤ 99) {th ma v3 : Int32} {to mto : Ar} (ht : ∀ i, i < 12 → mto i = to i) (hGt : Gt to) :
    ∀ (n i s : Nat) (he ro : Int32) (fi nw : Ar), i ≤ m → s < 65537 → Wn fi he ma ro nw → Gw fi he ma ro → m - i < n →
    ∃ (he2 ro2 : Int32) (fi2 nw2 : Ar), L_X3_live_5 (nI m) th ma to n (nI s) (nI i) he ro fi = some (he2, ro2, fi2) ∧ L_X5_day_43 (nI m) v3 th mto n (nI s) (nI i) nw = dayX v3 nw2 ∧ Wn fi2 he2 ma ro2 nw2 ∧ Gw fi2 he2 ma ro2 := by
  intro n
  induction n with
  | zero => intro i s he ro fi nw _ _ _ _ h; omega
  | succ n ih =>
    intro i s he ro fi nw him hs hW hG hn
    show ∃ (he2 ro2 : Int32) (fi2 nw2 : Ar), b_X3_live_5 (L_X3_live_5 (nI m) th ma to n) (nI m) th ma to (nI s) (nI i) he ro fi = _ ∧ b_X5_day_43 (L_X5_day_43 (nI m) v3 th mto n) (nI m) v3 th mto (nI s) (nI i) nw = _ ∧ _
    unfold b_X3_live_5 b_X5_day_43
    rcases Nat.lt_or_ge i m with hi | hi
    · have hs2 : (75 * s + 74) % 65537 < 65537 := Nat.mod_lt _ (by decide)
      rw [if_neg (nle_nI (by omega) hi), if_neg (nle_nI (by omega) hi), bnd_eq, bnd_eq, draw_x hs, draw_8 hs2, draw_10 hs2, nI_1, sgn_eq (fun z => j_X5_day_106 (L_X5_day_43 (nI m) v3 th mto n) (nI ((75 * s + 74) % 65537)) (nI i) z th nw mto) _ (Nat.mod_lt _ (by decide))]
      generalize (75 * s + 74) % 65537 = s2 at hs2
      have hsg : isSign (m_X3_drawnSign (nI (s2 % 8))) := sgn_ok ⟨s2 % 8, Nat.mod_lt _ (by decide)⟩
      generalize m_X3_drawnSign (nI (s2 % 8)) = z at hsg
      unfold j_X5_day_106
      rw [draw_10 hs2, why_eq hsg hW hG, nI_1]
      by_cases ho : m_X3_obstacle z he ma ro = 0
      · obtain ⟨he', ro', fi', nw', h1, h2, h3, h4⟩ := act_eq (th := th) (horn := nI (s2 / 8 % 10)) hsg (fun _ => nI_rg (n := 9) (by omega) (by decide)) hW hG ht hGt ho
        rw [if_pos ho, if_pos ho, h1, h2, ob3_s, ob1_s]
        exact ih (i + 1) s2 he' ro' fi' nw' hi hs2 h3 h4 (by omega)
      · rw [if_neg ho, if_neg ho]
        exact ih (i + 1) s2 he ro fi nw hi hs2 hW hG (by omega)
    · have e : i = m := by omega
      subst e
      rw [if_pos (Int32.le_refl _), if_pos (Int32.le_refl _)]
      refine ⟨he, ro, fi, nw, rfl, ?_, hW, hG⟩
      unfold dayX
      rw [x5_down, ob1_s, bits_eq, ob1_s]
set_option maxHeartbeats 4000000 in
theorem p_day (v1 : Int32) (v2 : Int32) (v3 : Int32) (ct : Int32) (sg : Ar) (si : Int32) (ft : Int32) (th : Int32) (he : Int32) (ma : Int32) (ro : Int32) (fi : Ar) (to : Ar) (ne : Ar) (ac : Int32) (wy : Int32) (fa : Int32) (fp : Int32) (thw : Int32) (hew : Int32) (maw : Int32) (row : Int32) (fiw : Ar) (tow : Ar) (zth : Int32) (zsi : Int32) (zsn : Int32) (zre : Int32) (zac : Int32) (zfa : Int32) (zfw : Int32) (zbk : Ar) (znw : Ar) (zto : Ar) (zne : Ar) (zst : Ar) (zpd : Ar) (zcn : Ar) (zig : Ar) (zik : Ar) (hR : CR ct sg si ft th he ma ro fi to ne zth zsi zsn zbk zto zne zst zpd) : ∃ (r : Int32) (thw2 : Int32) (hew2 : Int32) (maw2 : Int32) (row2 : Int32) (fiw2 : Ar) (tow2 : Ar) (znw2 : Ar), m_X4_day v1 v2 v3 th he ma ro fi to thw hew maw row fiw tow = some (r, thw2, hew2, maw2, row2, fiw2, tow2) ∧ m_X5_day v1 v2 v3 zth zbk znw zto = some (r, znw2) ∧ CR ct sg si ft th he ma ro fi to ne zth zsi zsn zbk zto zne zst zpd := by
  obtain ⟨hp, ⟨hW, hG, ht, gt, hth, hsm⟩, hr⟩ := id hR
  by_cases h1 : 0 ≤ v1 ∧ v1 ≤ 9999
  · by_cases h2 : 1 ≤ v2 ∧ v2 ≤ 99
    · by_cases h3 : 0 ≤ v3 ∧ v3 ≤ 2
      · obtain ⟨s, hs, rfl⟩ := le_lit (n := 9999) (by decide) h1
        obtain ⟨m, hm, rfl⟩ := le_lit (n := 99) (by decide) ⟨Int32.le_trans (by decide) h2.1, h2.2⟩
        subst hth
        obtain ⟨he2, ro2, fi2, nw2, e1, e2, hW2, hG2⟩ := day_sim hm (th := zth) (ma := ma) (v3 := v3) (to := va_cpy to tow 0 0 12) (mto := zto) (fun i hi => by rw [cpy_lt hi]; exact ht i hi) (Gt_cpy gt) fu 0 s he ro (va_cpy fi fiw 0 0 12) (amap 0 15 (fun j _ => zbk j) znw) (Nat.zero_le _) (by omega) (Wn_cpy (Wn_now hW)) (Gw_cpy hG) (by show m - 0 < 5000; omega)
        have ex : m_X4_day (nI s) (nI m) v3 zth he ma ro fi to thw hew maw row fiw tow = some (if v3 = 0 then bitsF (dbF fi2) else if v3 = 1 then he2 else ro2, zth, he2, ma, ro2, fi2, va_cpy to tow 0 0 12) := by
          unfold m_X4_day m_X3_copyFrom m_X3_live
          rw [iso_if_p h1, iso_if_p h2, iso_if_p h3, ob6_s]
          rw [show L_X3_live_5 (nI m) zth ma (va_cpy to tow 0 0 12) fu (nI s) 0 he ro (va_cpy fi fiw 0 0 12) = some (he2, ro2, fi2) from e1, ob3_s, x3_down, ob1_s, pc_small (small_dbF fi2)]
          by_cases c0 : v3 = 0
          · rw [if_pos c0, if_pos c0]
          rw [if_neg c0, if_neg c0]
          by_cases c1 : v3 = 1
          · rw [if_pos c1, if_pos c1]
          · rw [if_neg c1, if_neg c1]
        have em : m_X5_day (nI s) (nI m) v3 zth zbk znw zto = some (if v3 = 0 then bitsF (dbF fi2) else if v3 = 1 then he2 else ro2, nw2) := by
          unfold m_X5_day
          rw [in_if_p h1, in_if_p h2, in_if_p h3, x5_asNow, ob1_s]
          rw [show L_X5_day_43 (nI m) v3 zth zto fu (nI s) 0 (amap 0 15 (fun j _ => zbk j) znw) = dayX v3 nw2 from e2]
          unfold dayX
          rw [dbF_c hW2.1, hW2.2.1, hW2.2.2.2]
          by_cases c0 : v3 = 0
          · rw [if_pos c0, if_pos c0]
          rw [if_neg c0, if_neg c0]
          by_cases c1 : v3 = 1
          · rw [if_pos c1, if_pos c1]
          · rw [if_neg c1, if_neg c1]
        exact ⟨_, _, _, _, _, _, _, _, ex, em, hR⟩
      · refine ⟨-2, thw, hew, maw, row, fiw, tow, znw, ?_, ?_, hR⟩
        · unfold m_X4_day; rw [iso_if_p h1, iso_if_p h2, iso_if_n h3]
        · unfold m_X5_day; rw [in_if_p h1, in_if_p h2, in_if_n h3]
    · refine ⟨-2, thw, hew, maw, row, fiw, tow, znw, ?_, ?_, hR⟩
      · unfold m_X4_day; rw [iso_if_p h1, iso_if_n h2]
      · unfold m_X5_day; rw [in_if_p h1, in_if_n h2]
  · refine ⟨-2, thw, hew, maw, row, fiw, tow, znw, ?_, ?_, hR⟩
    · unfold m_X4_day; rw [iso_if_n h1]
    · unfold m_X5_day; rw [in_if_n h1]
/-! lots -/
theorem oneB_nI {i : Nat} (hi : i < 31) : oneB i = nI (2 ^ i) := by
  have h := pk_shlN (n := 1) (nI i &&& 31) i (s_l i (by omega)) (by rw [Nat.one_mul]; exact Nat.pow_lt_pow_right (by decide) (by omega))
  rw [Nat.one_mul] at h
  exact h
theorem lots_both {v : Int32} (hv : v ≤ nI 8192) : ∀ (n i : Nat), i ≤ 13 → 13 - i < n → ∃ r, L_X4_lotsAmong_2 v n (nI i) = some r ∧ L_X5_lotsFor_4 v n (nI i) (nI (2 ^ i)) = some r := by
  intro n
  induction n with
  | zero => intro i _ h; omega
  | succ n ih =>
    intro i hi hn
    show ∃ r, b_X4_lotsAmong_2 (L_X4_lotsAmong_2 v n) v (nI i) = some r ∧ b_X5_lotsFor_4 (L_X5_lotsFor_4 v n) v (nI i) (nI (2 ^ i)) = some r
    unfold b_X4_lotsAmong_2 b_X5_lotsFor_4
    have e : (1 : Int32) <<< (nI i &&& 31) = nI (2 ^ i) := oneB_nI (by omega)
    rw [if_neg (show ¬ (30 : Int32) ≤ nI i from nle_nI (k := 30) (by decide) (by omega)), e, nI_1]
    by_cases h : v ≤ nI (2 ^ i)
    · rw [if_pos h, if_pos h]; exact ⟨_, rfl, rfl⟩
    · have hi13 : i < 13 := by
        apply Nat.lt_of_le_of_ne hi
        intro q
        subst q
        exact h hv
      rw [if_neg h, if_neg h, show nI (2 ^ i) * 2 = nI (2 ^ (i + 1)) from by rw [Nat.pow_succ]; exact pk_mul (2 ^ i) 2]
      exact ih (i + 1) hi13 (by omega)
theorem lots_all {v : Int32} (hv : v ≤ nI 8192) : ∃ r, m_X4_lotsAmong v = some r ∧ m_X5_lotsFor v = some r := lots_both hv fu 0 (by decide) (by decide)
set_option maxHeartbeats 4000000 in
theorem p_lots (v1 : Int32) (v2 : Int32) (v3 : Int32) (v4 : Int32) (ct : Int32) (sg : Ar) (si : Int32) (ft : Int32) (th : Int32) (he : Int32) (ma : Int32) (ro : Int32) (fi : Ar) (to : Ar) (ne : Ar) (ac : Int32) (wy : Int32) (fa : Int32) (fp : Int32) (thw : Int32) (hew : Int32) (maw : Int32) (row : Int32) (fiw : Ar) (tow : Ar) (zth : Int32) (zsi : Int32) (zsn : Int32) (zre : Int32) (zac : Int32) (zfa : Int32) (zfw : Int32) (zbk : Ar) (znw : Ar) (zto : Ar) (zne : Ar) (zst : Ar) (zpd : Ar) (zcn : Ar) (zig : Ar) (zik : Ar) (hR : CR ct sg si ft th he ma ro fi to ne zth zsi zsn zbk zto zne zst zpd) : ∃ (r : Int32), m_X4_lots v1 v2 v3 v4 = some r ∧ m_X5_lots v1 v2 v3 v4 = some r ∧ CR ct sg si ft th he ma ro fi to ne zth zsi zsn zbk zto zne zst zpd := by
  suffices h : ∃ r, m_X4_lots v1 v2 v3 v4 = some r ∧ m_X5_lots v1 v2 v3 v4 = some r by
    obtain ⟨r, a, b⟩ := h
    exact ⟨r, a, b, hR⟩
  unfold m_X4_lots m_X5_lots
  by_cases h1 : 1 ≤ v1 ∧ v1 ≤ 20
  · by_cases h2 : 1 ≤ v2 ∧ v2 ≤ 20
    · by_cases h3 : 1 ≤ v3 ∧ v3 ≤ 20
      · by_cases h4 : 0 ≤ v4 ∧ v4 ≤ 1
        · rw [iso_if_p h1, iso_if_p h2, iso_if_p h3, iso_if_p h4, in_if_p h1, in_if_p h2, in_if_p h3, in_if_p h4]
          obtain ⟨a, ha, rfl⟩ := le_lit (n := 20) (by decide) ⟨Int32.le_trans (by decide) h1.1, h1.2⟩
          obtain ⟨b, hb, rfl⟩ := le_lit (n := 20) (by decide) ⟨Int32.le_trans (by decide) h2.1, h2.2⟩
          obtain ⟨c, hc, rfl⟩ := le_lit (n := 20) (by decide) ⟨Int32.le_trans (by decide) h3.1, h3.2⟩
          by_cases c0 : v4 = 0
          · rw [if_pos c0, if_pos c0, pk_mul, pk_mul]
            have hle : a * b * c ≤ 20 * 20 * 20 := Nat.mul_le_mul (Nat.mul_le_mul ha hb) hc
            obtain ⟨r, e1, e2⟩ := lots_all (v := nI (a * b * c)) (nI_le (by omega) (by decide))
            rw [e1, e2]
            exact ⟨r, rfl, rfl⟩
          · rw [if_neg c0, if_neg c0]
            obtain ⟨r1, e1, f1⟩ := lots_all (v := nI a) (nI_le (by omega) (by decide))
            obtain ⟨r2, e2, f2⟩ := lots_all (v := nI b) (nI_le (by omega) (by decide))
            obtain ⟨r3, e3, f3⟩ := lots_all (v := nI c) (nI_le (by omega) (by decide))
            rw [e1, e2, e3, f1, f2, f3]
            exact ⟨_, rfl, rfl⟩
        · rw [iso_if_p h1, iso_if_p h2, iso_if_p h3, iso_if_n h4, in_if_p h1, in_if_p h2, in_if_p h3, in_if_n h4]; exact ⟨_, rfl, rfl⟩
      · rw [iso_if_p h1, iso_if_p h2, iso_if_n h3, in_if_p h1, in_if_p h2, in_if_n h3]; exact ⟨_, rfl, rfl⟩
    · rw [iso_if_p h1, iso_if_n h2, in_if_p h1, in_if_n h2]; exact ⟨_, rfl, rfl⟩
  · rw [iso_if_n h1, in_if_n h1]; exact ⟨_, rfl, rfl⟩
/-! water -/
theorem water0 : ∀ (w : Fin 10) (t : Fin 11) (q p : Fin 2), m_X4_water (nI w.val) (nI t.val) (nI q.val) (nI p.val) = m_X5_water (nI w.val) (nI t.val) (nI q.val) (nI p.val) ∧ (m_X5_water (nI w.val) (nI t.val) (nI q.val) (nI p.val)).isSome = true := by decide +kernel
set_option maxHeartbeats 4000000 in
theorem p_water (v1 : Int32) (v2 : Int32) (v3 : Int32) (v4 : Int32) (ct : Int32) (sg : Ar) (si : Int32) (ft : Int32) (th : Int32) (he : Int32) (ma : Int32) (ro : Int32) (fi : Ar) (to : Ar) (ne : Ar) (ac : Int32) (wy : Int32) (fa : Int32) (fp : Int32) (thw : Int32) (hew : Int32) (maw : Int32) (row : Int32) (fiw : Ar) (tow : Ar) (zth : Int32) (zsi : Int32) (zsn : Int32) (zre : Int32) (zac : Int32) (zfa : Int32) (zfw : Int32) (zbk : Ar) (znw : Ar) (zto : Ar) (zne : Ar) (zst : Ar) (zpd : Ar) (zcn : Ar) (zig : Ar) (zik : Ar) (hR : CR ct sg si ft th he ma ro fi to ne zth zsi zsn zbk zto zne zst zpd) : ∃ (r : Int64), m_X4_water v1 v2 v3 v4 = some r ∧ m_X5_water v1 v2 v3 v4 = some r ∧ CR ct sg si ft th he ma ro fi to ne zth zsi zsn zbk zto zne zst zpd := by
  suffices h : ∃ r, m_X4_water v1 v2 v3 v4 = some r ∧ m_X5_water v1 v2 v3 v4 = some r by
    obtain ⟨r, a, b⟩ := h
    exact ⟨r, a, b, hR⟩
  by_cases h1 : 0 ≤ v1 ∧ v1 ≤ 9
  · by_cases h2 : 0 ≤ v2 ∧ v2 ≤ 10
    · by_cases h3 : 0 ≤ v3 ∧ v3 ≤ 1
      · by_cases h4 : 0 ≤ v4 ∧ v4 ≤ 1
        · obtain ⟨a, ha, rfl⟩ := le_lit (n := 9) (by decide) h1
          obtain ⟨b, hb, rfl⟩ := le_lit (n := 10) (by decide) h2
          obtain ⟨c, hc, rfl⟩ := le_lit (n := 1) (by decide) h3
          obtain ⟨d, hd, rfl⟩ := le_lit (n := 1) (by decide) h4
          obtain ⟨e1, e2⟩ := water0 ⟨a, by omega⟩ ⟨b, by omega⟩ ⟨c, by omega⟩ ⟨d, by omega⟩
          obtain ⟨r, hr⟩ := Option.isSome_iff_exists.mp e2
          exact ⟨r, e1.trans hr, hr⟩
        · unfold m_X4_water m_X5_water; rw [iso_if_p h1, iso_if_p h2, iso_if_p h3, iso_if_n h4, in_if_p h1, in_if_p h2, in_if_p h3, in_if_n h4]; exact ⟨_, rfl, rfl⟩
      · unfold m_X4_water m_X5_water; rw [iso_if_p h1, iso_if_p h2, iso_if_n h3, in_if_p h1, in_if_p h2, in_if_n h3]; exact ⟨_, rfl, rfl⟩
    · unfold m_X4_water m_X5_water; rw [iso_if_p h1, iso_if_n h2, in_if_p h1, in_if_n h2]; exact ⟨_, rfl, rfl⟩
  · unfold m_X4_water m_X5_water; rw [iso_if_n h1, in_if_n h1]; exact ⟨_, rfl, rfl⟩
