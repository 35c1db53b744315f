theorem cpy_lt {f g : Ar} {n j : Nat} (h : j < n) : va_cpy f g 0 0 n j = f j := by
  rw [pk_cpy_in (Nat.zero_le _) (by omega)]
  congr 1
  omega
theorem Wn_cpy {fi g bk : Ar} {he ma ro : Int32} (h : Wn fi he ma ro bk) : Wn (va_cpy fi g 0 0 12) he ma ro bk := ⟨fun i hi => by rw [cpy_lt hi]; exact h.1 i hi, h.2⟩
theorem Wn_now {fi bk nw : Ar} {he ma ro : Int32} (h : Wn fi he ma ro bk) : Wn fi he ma ro (amap 0 15 (fun j _ => bk j) nw) :=
  ⟨fun i hi => by rw [amap_in (Nat.zero_le _) (by omega)]; exact h.1 i hi, by rw [amap_in (Nat.zero_le _) (by omega)]; exact h.2.1, by rw [amap_in (Nat.zero_le _) (by omega)]; exact h.2.2.1, by rw [amap_in (Nat.zero_le _) (by omega)]; exact h.2.2.2⟩
theorem Gw_cpy {fi g : Ar} {he ma ro : Int32} (h : Gw fi he ma ro) : Gw (va_cpy fi g 0 0 12) he ma ro := ⟨fun i hi => by rw [cpy_lt hi]; exact h.1 i hi, h.2⟩
theorem Gt_cpy {to g : Ar} (h : Gt to) : Gt (va_cpy to g 0 0 12) := fun i hi => by rw [cpy_lt hi]; exact h i hi
theorem follow_both {ct th he ma ro zsn zth : Int32} {sg fi to zpd zbk zto : Ar} (hp : Rpad ct sg zsn zpd) (hw : Rwall fi to th he ma ro zbk zto zth) (hf : m_X0_faultPlace ct sg = some (-6)) (fiw tow znw : Ar) (zre : Int32) :
    ∃ (a2 : Nat) (wy2 fa2 fp2 he2 ro2 r2 re2 : Int32) (fi2 nw2 : Ar), m_X2_follow fiw tow ct sg th he ma ro fi to = some (nI a2, wy2, fa2, fp2, th, he2, ma, ro2, fi2, va_cpy to tow 0 0 12) ∧
      m_X5_goRounds zth zsn zre zbk znw zto zpd = some (r2, re2, nI a2, fa2, fp2, nw2) ∧ Wn fi2 he2 ma ro2 nw2 ∧ Gw fi2 he2 ma ro2 ∧ a2 ≤ 60 ∧ ((r2 = -6 ∧ wy2 = 0) ∨ (r2 = nI a2 ∧ re2 = wy2 ∧ ¬ wy2 = 0)) := by
  obtain ⟨k, hk, rfl, rfl, hpp⟩ := hp
  obtain ⟨hW, hG, ht, gt, rfl, -⟩ := hw
  obtain ⟨a2, wy2, fa2, fp2, he2, ro2, r2, re2, fi2, nw2, h1, h2, h3⟩ := walk_sim hk hpp (th := zth) (ma := ma) (to := va_cpy to tow 0 0 12) (mto := zto) (fun i hi => by rw [cpy_lt hi]; exact ht i hi) (Gt_cpy gt) fu 0 0 zre (-6) (-6) he ro (va_cpy fi fiw 0 0 12) (amap 0 15 (fun j _ => zbk j) znw) (Nat.zero_le _) (Nat.le_refl _) ⟨fu, hf⟩ (Wn_cpy (Wn_now hW)) (Gw_cpy hG) (Or.inl rfl) (by show k - 0 < 5000; omega)
  refine ⟨a2, wy2, fa2, fp2, he2, ro2, r2, re2, fi2, nw2, ?_, ?_, h3⟩
  · unfold m_X2_follow m_X3_copyFrom
    rw [ob6_s]
    exact h1
  · unfold m_X5_goRounds
    rw [x5_asNow, ob1_s]
    exact h2
set_option maxHeartbeats 4000000 in
theorem p_judge (v1 : Int32) (ct : Int32) (sg : Ar) (si : Int32) (ft : Int32) (th : Int32) (he : Int32) (ma : Int32) (ro : Int32) (fi : Ar) (to : Ar) (ne : Ar) (ac : Int32) (wy : Int32) (fa : Int32) (fp : Int32) (thw : Int32) (hew : Int32) (maw : Int32) (row : Int32) (fiw : Ar) (tow : Ar) (zth : Int32) (zsi : Int32) (zsn : Int32) (zre : Int32) (zac : Int32) (zfa : Int32) (zfw : Int32) (zbk : Ar) (znw : Ar) (zto : Ar) (zne : Ar) (zst : Ar) (zpd : Ar) (zcn : Ar) (zig : Ar) (zik : Ar) (hR : CR ct sg si ft th he ma ro fi to ne zth zsi zsn zbk zto zne zst zpd) : ∃ (r : Int32) (ac2 : Int32) (wy2 : Int32) (fa2 : Int32) (fp2 : Int32) (thw2 : Int32) (hew2 : Int32) (maw2 : Int32) (row2 : Int32) (fiw2 : Ar) (tow2 : Ar) (zre2 : Int32) (zac2 : Int32) (zfa2 : Int32) (zfw2 : Int32) (znw2 : Ar), m_X4_judge v1 ct sg th he ma ro fi to ac wy fa fp thw hew maw row fiw tow = some (r, ac2, wy2, fa2, fp2, thw2, hew2, maw2, row2, fiw2, tow2) ∧ m_X5_judge v1 zth zsn zre zac zfa zfw zbk znw zto zpd = some (r, zre2, zac2, zfa2, zfw2, znw2) ∧ CR ct sg si ft th he ma ro fi to ne zth zsi zsn zbk zto zne zst zpd := by
  obtain ⟨hp, hw, hr⟩ := id hR
  by_cases h1 : 0 ≤ v1 ∧ v1 ≤ 1
  · obtain ⟨f, hf1, hf2, hf3⟩ := fault_both hp
    by_cases hf : f = -6
    · subst hf
      obtain ⟨a2, wy2, fa2, fp2, he2, ro2, r2, re2, fi2, nw2, e1, e2, -, -, ha, h4⟩ := follow_both hp hw hf1 fiw tow znw zre
      have ex : m_X4_judge v1 ct sg th he ma ro fi to ac wy fa fp thw hew maw row fiw tow = if wy2 = 0 then some (-6, nI a2, wy2, fa2, fp2, th, he2, ma, ro2, fi2, va_cpy to tow 0 0 12) else if v1 = 0 then some (nI a2, nI a2, wy2, fa2, fp2, th, he2, ma, ro2, fi2, va_cpy to tow 0 0 12) else some (wy2, nI a2, wy2, fa2, fp2, th, he2, ma, ro2, fi2, va_cpy to tow 0 0 12) := by
        unfold m_X4_judge
        rw [iso_if_p h1, hf1, ob1_s, if_pos rfl, e1, ob10_s]
      have em : m_X5_judge v1 zth zsn zre zac zfa zfw zbk znw zto zpd = if r2 < 0 then some (r2, re2, nI a2, fa2, fp2, nw2) else if v1 = 0 then some (r2, re2, nI a2, fa2, fp2, nw2) else some (re2, re2, nI a2, fa2, fp2, nw2) := by
        unfold m_X5_judge
        rw [in_if_p h1, hf2, ob1_s, if_pos (by decide), e2, ob6_s]
      rcases h4 with ⟨q1, q2⟩ | ⟨q1, q2, q3⟩
      · rw [if_pos q2] at ex
        rw [if_pos (by rw [q1]; decide), q1] at em
        exact ⟨_, _, _, _, _, _, _, _, _, _, _, _, _, _, _, _, ex, em, hR⟩
      · rw [if_neg q3] at ex
        rw [if_neg (by rw [q1]; exact nI_pos (by omega)), q1, q2] at em
        by_cases h0 : v1 = 0
        · rw [if_pos h0] at ex em
          exact ⟨_, _, _, _, _, _, _, _, _, _, _, _, _, _, _, _, ex, em, hR⟩
        · rw [if_neg h0] at ex em
          exact ⟨_, _, _, _, _, _, _, _, _, _, _, _, _, _, _, _, ex, em, hR⟩
    · refine ⟨-5, ac, wy, fa, fp, thw, hew, maw, row, fiw, tow, zre, zac, zfa, zfw, znw, ?_, ?_, hR⟩
      · unfold m_X4_judge; rw [iso_if_p h1, hf1, ob1_s, if_neg hf]
      · unfold m_X5_judge; rw [in_if_p h1, hf2, ob1_s, if_neg (Int32.not_lt.mpr (hf3.resolve_left hf))]
  · refine ⟨-2, ac, wy, fa, fp, thw, hew, maw, row, fiw, tow, zre, zac, zfa, zfw, znw, ?_, ?_, hR⟩
    · unfold m_X4_judge; rw [iso_if_n h1]
    · unfold m_X5_judge; rw [in_if_n h1]
/-- can the rounds be walked: and what stands behind them then -/
theorem bar_both {ct th he ma ro zsn zth : Int32} {sg fi to zpd zbk zto : Ar} (hp : Rpad ct sg zsn zpd) (hw : Rwall fi to th he ma ro zbk zto zth) (ac wy fa fp thw hew maw row : Int32) (fiw tow : Ar) (zre zac zfa zfw : Int32) (znw : Ar) :
    (∃ (ac2 wy2 fa2 fp2 thw2 hew2 maw2 row2 : Int32) (fiw2 tow2 : Ar) (re2 ac3 fa3 fw3 : Int32) (nw2 : Ar), m_X4_canWalk ct sg th he ma ro fi to ac wy fa fp thw hew maw row fiw tow = some (0, ac2, wy2, fa2, fp2, thw2, hew2, maw2, row2, fiw2, tow2) ∧ m_X5_barOfRounds zth zsn zre zac zfa zfw zbk znw zto zpd = some (-5, re2, ac3, fa3, fw3, nw2)) ∨
    (∃ (ac2 fa2 fp2 he2 ro2 re2 : Int32) (fi2 nw2 : Ar), m_X4_canWalk ct sg th he ma ro fi to ac wy fa fp thw hew maw row fiw tow = some (1, ac2, 0, fa2, fp2, th, he2, ma, ro2, fi2, va_cpy to tow 0 0 12) ∧ m_X5_barOfRounds zth zsn zre zac zfa zfw zbk znw zto zpd = some (0, re2, ac2, fa2, fp2, nw2) ∧ Wn fi2 he2 ma ro2 nw2 ∧ Gw fi2 he2 ma ro2) := by
  obtain ⟨f, hf1, hf2, hf3⟩ := fault_both hp
  by_cases hf : f = -6
  · subst hf
    obtain ⟨a2, wy2, fa2, fp2, he2, ro2, r2, re2, fi2, nw2, e1, e2, hW2, hG2, ha, h4⟩ := follow_both hp hw hf1 fiw tow znw zre
    rcases h4 with ⟨q1, q2⟩ | ⟨q1, q2, q3⟩
    · refine Or.inr ⟨nI a2, fa2, fp2, he2, ro2, re2, fi2, nw2, ?_, ?_, hW2, hG2⟩
      · unfold m_X4_canWalk
        rw [hf1, ob1_s, if_pos rfl, e1, ob10_s, if_pos q2, q2]
      · unfold m_X5_barOfRounds
        rw [hf2, ob1_s, if_neg (by decide), e2, ob6_s, if_pos (by rw [q1]; decide)]
    · refine Or.inl ⟨nI a2, wy2, fa2, fp2, th, he2, ma, ro2, fi2, va_cpy to tow 0 0 12, re2, nI a2, fa2, fp2, nw2, ?_, ?_⟩
      · unfold m_X4_canWalk
        rw [hf1, ob1_s, if_pos rfl, e1, ob10_s, if_neg q3]
      · unfold m_X5_barOfRounds
        rw [hf2, ob1_s, if_neg (by decide), e2, ob6_s, if_neg (by rw [q1]; exact nI_pos (by omega))]
  · refine Or.inl ⟨ac, wy, fa, fp, thw, hew, maw, row, fiw, tow, zre, zac, zfa, zfw, znw, ?_, ?_⟩
    · unfold m_X4_canWalk; rw [hf1, ob1_s, if_neg hf]
    · unfold m_X5_barOfRounds; rw [hf2, ob1_s, if_pos (hf3.resolve_left hf)]
theorem done_loop (re ac fa fw : Int32) (nw bk : Ar) : L_X5_done_12 re ac fa fw nw fu 0 bk = some (ac, 0, re, ac, fa, fw, amap 0 15 (fun j _ => nw j) bk, nw) := by
  refine lp_amap (fun n v f => L_X5_done_12 re ac fa fw nw n v f) (fun f => some (ac, 0, re, ac, fa, fw, f, nw)) 15 (by decide) (fun j _ => nw j) (fun _ => True) (fun n f _ => rfl) (fun n i f hi _ => ⟨?_, trivial⟩) 15 0 fu bk rfl (by decide) trivial
  show b_X5_done_12 (L_X5_done_12 re ac fa fw nw n) re ac fa fw nw (nI i) f = _
  unfold b_X5_done_12
  rw [if_neg (show ¬ (15 : Int32) ≤ nI i from nle_nI (k := 15) (by decide) hi), inb_nI hi (by decide), gd_t, nI_clamp (by omega), nI_1]
set_option maxHeartbeats 4000000 in
theorem p_done  (ct : Int32) (sg : Ar) (si : Int32) (ft : Int32) (th : Int32) (he : Int32) (ma : Int32) (ro : Int32) (fi : Ar) (to : Ar) (ne : Ar) (ac : Int32) (wy : Int32) (fa : Int32) (fp : Int32) (thw : Int32) (hew : Int32) (maw : Int32) (row : Int32) (fiw : Ar) (tow : Ar) (zth : Int32) (zsi : Int32) (zsn : Int32) (zre : Int32) (zac : Int32) (zfa : Int32) (zfw : Int32) (zbk : Ar) (znw : Ar) (zto : Ar) (zne : Ar) (zst : Ar) (zpd : Ar) (zcn : Ar) (zig : Ar) (zik : Ar) (hR : CR ct sg si ft th he ma ro fi to ne zth zsi zsn zbk zto zne zst zpd) : ∃ (r : Int32) (ct2 : Int32) (th2 : Int32) (he2 : Int32) (ma2 : Int32) (ro2 : Int32) (fi2 : Ar) (to2 : Ar) (ac2 : Int32) (wy2 : Int32) (fa2 : Int32) (fp2 : Int32) (thw2 : Int32) (hew2 : Int32) (maw2 : Int32) (row2 : Int32) (fiw2 : Ar) (tow2 : Ar) (zsn2 : Int32) (zre2 : Int32) (zac2 : Int32) (zfa2 : Int32) (zfw2 : Int32) (zbk2 : Ar) (znw2 : Ar), m_X4_done ct sg th he ma ro fi to ac wy fa fp thw hew maw row fiw tow = some (r, ct2, th2, he2, ma2, ro2, fi2, to2, ac2, wy2, fa2, fp2, thw2, hew2, maw2, row2, fiw2, tow2) ∧ m_X5_done zth zsn zre zac zfa zfw zbk znw zto zpd = some (r, zsn2, zre2, zac2, zfa2, zfw2, zbk2, znw2) ∧ CR ct2 sg si ft th2 he2 ma2 ro2 fi2 to2 ne zth zsi zsn2 zbk2 zto zne zst zpd := by
  obtain ⟨hp, hw, hr⟩ := id hR
  rcases bar_both hp hw ac wy fa fp thw hew maw row fiw tow zre zac zfa zfw znw with ⟨ac2, wy2, fa2, fp2, thw2, hew2, maw2, row2, fiw2, tow2, re2, ac3, fa3, fw3, nw2, e1, e2⟩ | ⟨ac2, fa2, fp2, he2, ro2, re2, fi2, nw2, e1, e2, hW2, hG2⟩
  · refine ⟨-5, ct, th, he, ma, ro, fi, to, ac2, wy2, fa2, fp2, thw2, hew2, maw2, row2, fiw2, tow2, zsn, re2, ac3, fa3, fw3, zbk, nw2, ?_, ?_, hR⟩
    · unfold m_X4_done; rw [e1, ob11_s, if_pos rfl]
    · unfold m_X5_done; rw [e2, ob6_s, if_neg (by decide)]
  · obtain ⟨-, -, ht, gt, hth⟩ := hw
    refine ⟨ac2, 0, th, he2, ma, ro2, va_cpy fi2 fi 0 0 12, va_cpy (va_cpy to tow 0 0 12) to 0 0 12, ac2, 0, fa2, fp2, th, he2, ma, ro2, fi2, va_cpy to tow 0 0 12, 0, re2, ac2, fa2, fp2, amap 0 15 (fun j _ => nw2 j) zbk, nw2, ?_, ?_, ⟨0, by decide, rfl, rfl, fun i hi => by omega⟩, ⟨Wn_cpy (Wn_now hW2), Gw_cpy hG2, fun i hi => ?_, Gt_cpy (Gt_cpy gt), hth⟩, hr⟩
    · unfold m_X4_done m_X3_copyFrom m_X0_clean
      rw [e1, ob11_s, if_neg (by decide), ob6_s, ob2_s]
    · unfold m_X5_done
      rw [e2, ob6_s, if_pos (by decide), done_loop]
    · rw [cpy_lt hi, cpy_lt hi]; exact ht i hi
set_option maxHeartbeats 4000000 in
theorem p_behind (v1 : Int32) (ct : Int32) (sg : Ar) (si : Int32) (ft : Int32) (th : Int32) (he : Int32) (ma : Int32) (ro : Int32) (fi : Ar) (to : Ar) (ne : Ar) (ac : Int32) (wy : Int32) (fa : Int32) (fp : Int32) (thw : Int32) (hew : Int32) (maw : Int32) (row : Int32) (fiw : Ar) (tow : Ar) (zth : Int32) (zsi : Int32) (zsn : Int32) (zre : Int32) (zac : Int32) (zfa : Int32) (zfw : Int32) (zbk : Ar) (znw : Ar) (zto : Ar) (zne : Ar) (zst : Ar) (zpd : Ar) (zcn : Ar) (zig : Ar) (zik : Ar) (hR : CR ct sg si ft th he ma ro fi to ne zth zsi zsn zbk zto zne zst zpd) : ∃ (r : Int32) (ac2 : Int32) (wy2 : Int32) (fa2 : Int32) (fp2 : Int32) (thw2 : Int32) (hew2 : Int32) (maw2 : Int32) (row2 : Int32) (fiw2 : Ar) (tow2 : Ar) (zre2 : Int32) (zac2 : Int32) (zfa2 : Int32) (zfw2 : Int32) (znw2 : Ar), m_X4_behind v1 ct sg th he ma ro fi to ac wy fa fp thw hew maw row fiw tow = some (r, ac2, wy2, fa2, fp2, thw2, hew2, maw2, row2, fiw2, tow2) ∧ m_X5_behind v1 zth zsn zre zac zfa zfw zbk znw zto zpd = some (r, zre2, zac2, zfa2, zfw2, znw2) ∧ CR ct sg si ft th he ma ro fi to ne zth zsi zsn zbk zto zne zst zpd := by
  obtain ⟨hp, hw, hr⟩ := id hR
  by_cases h1 : 0 ≤ v1 ∧ v1 ≤ 11
  · rcases bar_both hp hw ac wy fa fp thw hew maw row fiw tow zre zac zfa zfw znw with ⟨ac2, wy2, fa2, fp2, thw2, hew2, maw2, row2, fiw2, tow2, re2, ac3, fa3, fw3, nw2, e1, e2⟩ | ⟨ac2, fa2, fp2, he2, ro2, re2, fi2, nw2, e1, e2, hW2, hG2⟩
    · refine ⟨-5, ac2, wy2, fa2, fp2, thw2, hew2, maw2, row2, fiw2, tow2, re2, ac3, fa3, fw3, nw2, ?_, ?_, hR⟩
      · unfold m_X4_behind; rw [iso_if_p h1, e1, ob11_s, if_pos rfl]
      · unfold m_X5_behind; rw [part_p (x := ()) h1, if_neg (by decide), e2, ob6_s, if_neg (by decide)]
    · obtain ⟨j, hj, rfl⟩ := le_lit (n := 11) (by decide) h1
      refine ⟨fi2 j, ac2, 0, fa2, fp2, th, he2, ma, ro2, fi2, va_cpy to tow 0 0 12, re2, ac2, fa2, fp2, nw2, ?_, ?_, hR⟩
      · unfold m_X4_behind; rw [iso_if_p h1, e1, ob11_s, if_neg (by decide), inb_nI (show j < 12 by omega) (by decide), gd_t, nI_clamp (by omega)]
      · unfold m_X5_behind; rw [part_p (x := ()) h1, if_neg (by decide), e2, ob6_s, if_pos (by decide), inb_nI (show j < 15 by omega) (by decide), gd_t, nI_clamp (by omega), hW2.1 j (by omega)]
  · refine ⟨-1, ac, wy, fa, fp, thw, hew, maw, row, fiw, tow, zre, zac, zfa, zfw, znw, ?_, ?_, hR⟩
    · unfold m_X4_behind; rw [iso_if_n h1]
    · unfold m_X5_behind; rw [part_n h1, if_pos rfl]
set_option maxHeartbeats 4000000 in
theorem p_then (v1 : Int32) (ct : Int32) (sg : Ar) (si : Int32) (ft : Int32) (th : Int32) (he : Int32) (ma : Int32) (ro : Int32) (fi : Ar) (to : Ar) (ne : Ar) (ac : Int32) (wy : Int32) (fa : Int32) (fp : Int32) (thw : Int32) (hew : Int32) (maw : Int32) (row : Int32) (fiw : Ar) (tow : Ar) (zth : Int32) (zsi : Int32) (zsn : Int32) (zre : Int32) (zac : Int32) (zfa : Int32) (zfw : Int32) (zbk : Ar) (znw : Ar) (zto : Ar) (zne : Ar) (zst : Ar) (zpd : Ar) (zcn : Ar) (zig : Ar) (zik : Ar) (hR : CR ct sg si ft th he ma ro fi to ne zth zsi zsn zbk zto zne zst zpd) : ∃ (r : Int32) (ac2 : Int32) (wy2 : Int32) (fa2 : Int32) (fp2 : Int32) (thw2 : Int32) (hew2 : Int32) (maw2 : Int32) (row2 : Int32) (fiw2 : Ar) (tow2 : Ar) (zre2 : Int32) (zac2 : Int32) (zfa2 : Int32) (zfw2 : Int32) (znw2 : Ar), m_X4_then v1 ct sg th he ma ro fi to ac wy fa fp thw hew maw row fiw tow = some (r, ac2, wy2, fa2, fp2, thw2, hew2, maw2, row2, fiw2, tow2) ∧ m_X5_then v1 zth zsn zre zac zfa zfw zbk znw zto zpd = some (r, zre2, zac2, zfa2, zfw2, znw2) ∧ CR ct sg si ft th he ma ro fi to ne zth zsi zsn zbk zto zne zst zpd := by
  obtain ⟨hp, hw, hr⟩ := id hR
  by_cases h1 : 0 ≤ v1 ∧ v1 ≤ 2
  · rcases bar_both hp hw ac wy fa fp thw hew maw row fiw tow zre zac zfa zfw znw with ⟨ac2, wy2, fa2, fp2, thw2, hew2, maw2, row2, fiw2, tow2, re2, ac3, fa3, fw3, nw2, e1, e2⟩ | ⟨ac2, fa2, fp2, he2, ro2, re2, fi2, nw2, e1, e2, hW2, hG2⟩
    · refine ⟨-5, ac2, wy2, fa2, fp2, thw2, hew2, maw2, row2, fiw2, tow2, re2, ac3, fa3, fw3, nw2, ?_, ?_, hR⟩
      · unfold m_X4_then; rw [iso_if_p h1, e1, ob11_s, if_pos rfl]
      · unfold m_X5_then; rw [in_if_p h1, e2, ob6_s, if_neg (by decide)]
    · have ex : m_X4_then v1 ct sg th he ma ro fi to ac wy fa fp thw hew maw row fiw tow = some (if v1 = 0 then dbF fi2 else if v1 = 1 then he2 else ro2, ac2, 0, fa2, fp2, th, he2, ma, ro2, fi2, va_cpy to tow 0 0 12) := by
        unfold m_X4_then
        rw [iso_if_p h1, e1, ob11_s, if_neg (by decide), x3_down, ob1_s]
        by_cases c0 : v1 = 0
        · rw [if_pos c0, if_pos c0]
        rw [if_neg c0, if_neg c0]
        by_cases c1 : v1 = 1
        · rw [if_pos c1, if_pos c1]
        · rw [if_neg c1, if_neg c1]
      have em : m_X5_then v1 zth zsn zre zac zfa zfw zbk znw zto zpd = some (if v1 = 0 then dbF fi2 else if v1 = 1 then he2 else ro2, re2, ac2, fa2, fp2, nw2) := by
        unfold m_X5_then
        rw [in_if_p h1, e2, ob6_s, if_pos (by decide), x5_down, ob1_s, dbF_c hW2.1, hW2.2.1, hW2.2.2.2]
        by_cases c0 : v1 = 0
        · rw [if_pos c0, if_pos c0]
        rw [if_neg c0, if_neg c0]
        by_cases c1 : v1 = 1
        · rw [if_pos c1, if_pos c1]
        · rw [if_neg c1, if_neg c1]
      exact ⟨_, _, _, _, _, _, _, _, _, _, _, _, _, _, _, _, ex, em, hR⟩
  · refine ⟨-2, ac, wy, fa, fp, thw, hew, maw, row, fiw, tow, zre, zac, zfa, zfw, znw, ?_, ?_, hR⟩
    · unfold m_X4_then; rw [iso_if_n h1]
    · unfold m_X5_then; rw [in_if_n h1]
set_option maxHeartbeats 4000000 in
theorem p_fell (v1 : Int32) (ct : Int32) (sg : Ar) (si : Int32) (ft : Int32) (th : Int32) (he : Int32) (ma : Int32) (ro : Int32) (fi : Ar) (to : Ar) (ne : Ar) (ac : Int32) (wy : Int32) (fa : Int32) (fp : Int32) (thw : Int32) (hew : Int32) (maw : Int32) (row : Int32) (fiw : Ar) (tow : Ar) (zth : Int32) (zsi : Int32) (zsn : Int32) (zre : Int32) (zac : Int32) (zfa : Int32) (zfw : Int32) (zbk : Ar) (znw : Ar) (zto : Ar) (zne : Ar) (zst : Ar) (zpd : Ar) (zcn : Ar) (zig : Ar) (zik : Ar) (hR : CR ct sg si ft th he ma ro fi to ne zth zsi zsn zbk zto zne zst zpd) : ∃ (r : Int32) (ac2 : Int32) (wy2 : Int32) (fa2 : Int32) (fp2 : Int32) (thw2 : Int32) (hew2 : Int32) (maw2 : Int32) (row2 : Int32) (fiw2 : Ar) (tow2 : Ar) (zre2 : Int32) (zac2 : Int32) (zfa2 : Int32) (zfw2 : Int32) (znw2 : Ar), m_X4_fell v1 ct sg th he ma ro fi to ac wy fa fp thw hew maw row fiw tow = some (r, ac2, wy2, fa2, fp2, thw2, hew2, maw2, row2, fiw2, tow2) ∧ m_X5_fell v1 zth zsn zre zac zfa zfw zbk znw zto zpd = some (r, zre2, zac2, zfa2, zfw2, znw2) ∧ CR ct sg si ft th he ma ro fi to ne zth zsi zsn zbk zto zne zst zpd := by
  obtain ⟨hp, hw, hr⟩ := id hR
  by_cases h1 : 0 ≤ v1 ∧ v1 ≤ 1
  · rcases bar_both hp hw ac wy fa fp thw hew maw row fiw tow zre zac zfa zfw znw with ⟨ac2, wy2, fa2, fp2, thw2, hew2, maw2, row2, fiw2, tow2, re2, ac3, fa3, fw3, nw2, e1, e2⟩ | ⟨ac2, fa2, fp2, he2, ro2, re2, fi2, nw2, e1, e2, hW2, hG2⟩
    · refine ⟨-5, ac2, wy2, fa2, fp2, thw2, hew2, maw2, row2, fiw2, tow2, re2, ac3, fa3, fw3, nw2, ?_, ?_, hR⟩
      · unfold m_X4_fell; rw [iso_if_p h1, e1, ob11_s, if_pos rfl]
      · unfold m_X5_fell; rw [in_if_p h1, e2, ob6_s, if_neg (by decide)]
    · by_cases c0 : v1 = 0
      · refine ⟨fa2, ac2, 0, fa2, fp2, th, he2, ma, ro2, fi2, va_cpy to tow 0 0 12, re2, ac2, fa2, fp2, nw2, ?_, ?_, hR⟩
        · unfold m_X4_fell; rw [iso_if_p h1, e1, ob11_s, if_neg (by decide), if_pos c0]
        · unfold m_X5_fell; rw [in_if_p h1, e2, ob6_s, if_pos (by decide), if_pos c0]
      · refine ⟨fp2, ac2, 0, fa2, fp2, th, he2, ma, ro2, fi2, va_cpy to tow 0 0 12, re2, ac2, fa2, fp2, nw2, ?_, ?_, hR⟩
        · unfold m_X4_fell; rw [iso_if_p h1, e1, ob11_s, if_neg (by decide), if_neg c0]
        · unfold m_X5_fell; rw [in_if_p h1, e2, ob6_s, if_pos (by decide), if_neg c0]
  · refine ⟨-2, ac, wy, fa, fp, thw, hew, maw, row, fiw, tow, zre, zac, zfa, zfw, znw, ?_, ?_, hR⟩
    · unfold m_X4_fell; rw [iso_if_n h1]
    · unfold m_X5_fell; rw [in_if_n h1]
theorem lt_rg {v : Int32} {n : Nat} (hn : n < 2 ^ 31) (h0 : 0 ≤ v) (h : v < nI n) : ∃ j : Nat, j < n ∧ v = nI j := by
  obtain ⟨j, hj, rfl⟩ := nI_of (Int32.not_lt.mpr h0)
  exact ⟨j, (nI_ltI hj hn).mp h, rfl⟩
theorem ex2 {α : Type} {x : Option α} (h : ∃ r, x = some r) : ∃ r, x = some r ∧ x = some r := h.elim (fun r q => ⟨r, q, q⟩)
set_option maxHeartbeats 4000000 in
theorem p_told (v1 : Int32) (ct : Int32) (sg : Ar) (si : Int32) (ft : Int32) (th : Int32) (he : Int32) (ma : Int32) (ro : Int32) (fi : Ar) (to : Ar) (ne : Ar) (ac : Int32) (wy : Int32) (fa : Int32) (fp : Int32) (thw : Int32) (hew : Int32) (maw : Int32) (row : Int32) (fiw : Ar) (tow : Ar) (zth : Int32) (zsi : Int32) (zsn : Int32) (zre : Int32) (zac : Int32) (zfa : Int32) (zfw : Int32) (zbk : Ar) (znw : Ar) (zto : Ar) (zne : Ar) (zst : Ar) (zpd : Ar) (zcn : Ar) (zig : Ar) (zik : Ar) (hR : CR ct sg si ft th he ma ro fi to ne zth zsi zsn zbk zto zne zst zpd) : ∃ (r : Int32), m_X4_told v1 ct si th he ma ro fi to ne = some r ∧ m_X5_told v1 zth zsi zsn zbk zto zne = some r ∧ CR ct sg si ft th he ma ro fi to ne zth zsi zsn zbk zto zne zst zpd := by
  obtain ⟨hp, ⟨⟨w1, w2, w3, w4⟩, hG, ht, gt, hth, hsm⟩, ⟨hm, hm2⟩, hs⟩ := id hR
  obtain ⟨k, hk, hct, hsn, -⟩ := hp
  obtain ⟨k2, hk2, hsi, hzsi, -⟩ := hs
  suffices h : ∃ r, m_X4_told v1 ct si th he ma ro fi to ne = some r ∧ m_X5_told v1 zth zsi zsn zbk zto zne = some r by
    obtain ⟨r, a, b⟩ := h
    exact ⟨r, a, b, hR⟩
  unfold m_X4_told m_X5_told
  by_cases c50 : v1 < 50
  · rw [if_pos c50]
    have n50 : ¬ (50 ≤ v1 ∧ v1 ≤ 57) := fun q => absurd c50 (Int32.not_lt.mpr q.1)
    by_cases c30 : v1 < 30
    · rw [if_pos c30]
      have n30 : ¬ (30 ≤ v1 ∧ v1 ≤ 41) := fun q => absurd c30 (Int32.not_lt.mpr q.1)
      by_cases c10 : v1 < 10
      · have n10 : ¬ (10 ≤ v1 ∧ v1 ≤ 21) := fun q => absurd c10 (Int32.not_lt.mpr q.1)
        rw [if_pos c10, iso_if_n n10, iso_if_n n30, iso_if_n n50, w2, w3, w4, hct, hsn, hsi, hzsi, hth]
        refine ex2 ?_
        repeat (first | exact ⟨_, rfl⟩ | split)
      · rw [if_neg c10]
        obtain ⟨j, hj, rfl⟩ := lt_rg (n := 30) (by decide) (Int32.le_trans (by decide) (Int32.not_lt.mp c10)) c30
        have hj10 : 10 ≤ j := (nI_leI (a := 10) (by decide) (by omega)).mp (Int32.not_lt.mp c10)
        have es : nI j - 10 = nI (j - 10) := pk_sub (b := 10) hj10
        rw [es]
        by_cases h : j ≤ 21
        · have hin : 0 ≤ nI (j - 10) ∧ nI (j - 10) ≤ 11 := nI_rg (n := 11) (by omega) (by decide)
          rw [iso_if_p ⟨Int32.not_lt.mp c10, show nI j ≤ (21 : Int32) from nI_le (b := 21) h (by decide)⟩, part_p (x := ()) hin, if_neg (by decide), inb_nI (show j - 10 < 12 by omega) (by decide), inb_nI (show j - 10 < 15 by omega) (by decide), gd_t, gd_t, nI_clamp (by omega), w1 (j - 10) (by omega)]
          exact ⟨_, rfl, rfl⟩
        · have hno : ¬ (0 ≤ nI (j - 10) ∧ nI (j - 10) ≤ 11) := fun q => by have := (nI_leI (b := 11) (by omega) (by decide)).mp q.2; omega
          have hno2 : ¬ ((10 : Int32) ≤ nI j ∧ nI j ≤ 21) := fun q => by have := (nI_leI (b := 21) (by omega) (by decide)).mp q.2; omega
          rw [iso_if_n hno2, iso_if_n n30, iso_if_n n50, part_n hno, if_pos rfl]
          have ne_ : ∀ q : Int32, q ≤ 5 → ¬ nI j = q := fun q hq e => absurd (Int32.le_trans (Int32.not_lt.mp c10) (e ▸ hq)) (by decide)
          rw [if_neg (ne_ 0 (by decide)), if_neg (ne_ 1 (by decide)), if_neg (ne_ 2 (by decide)), if_neg (ne_ 3 (by decide)), if_neg (ne_ 4 (by decide)), if_neg (ne_ 5 (by decide))]
          exact ⟨_, rfl, rfl⟩
    · rw [if_neg c30]
      obtain ⟨j, hj, rfl⟩ := lt_rg (n := 50) (by decide) (Int32.le_trans (by decide) (Int32.not_lt.mp c30)) c50
      have hj30 : 30 ≤ j := (nI_leI (a := 30) (by decide) (by omega)).mp (Int32.not_lt.mp c30)
      have es : nI j - 30 = nI (j - 30) := pk_sub (b := 30) hj30
      have n10 : ¬ ((10 : Int32) ≤ nI j ∧ nI j ≤ 21) := fun q => by have := (nI_leI (b := 21) (by omega) (by decide)).mp q.2; omega
      rw [es, iso_if_n n10]
      by_cases h : j ≤ 41
      · have hin : 0 ≤ nI (j - 30) ∧ nI (j - 30) ≤ 11 := nI_rg (n := 11) (by omega) (by decide)
        rw [iso_if_p ⟨Int32.not_lt.mp c30, show nI j ≤ (41 : Int32) from nI_le (b := 41) h (by decide)⟩, part_p (x := ()) hin, if_neg (by decide), inb_nI (show j - 30 < 12 by omega) (by decide), gd_t, gd_t, nI_clamp (by omega), ht (j - 30) (by omega)]
        exact ⟨_, rfl, rfl⟩
      · have hno : ¬ (0 ≤ nI (j - 30) ∧ nI (j - 30) ≤ 11) := fun q => by have := (nI_leI (b := 11) (by omega) (by decide)).mp q.2; omega
        have hno2 : ¬ ((30 : Int32) ≤ nI j ∧ nI j ≤ 41) := fun q => by have := (nI_leI (b := 41) (by omega) (by decide)).mp q.2; omega
        rw [iso_if_n hno2, iso_if_n n50, part_n hno, if_pos rfl]
        have ne_ : ∀ q : Int32, q ≤ 5 → ¬ nI j = q := fun q hq e => absurd (Int32.le_trans (Int32.not_lt.mp c30) (e ▸ hq)) (by decide)
        rw [if_neg (ne_ 0 (by decide)), if_neg (ne_ 1 (by decide)), if_neg (ne_ 2 (by decide)), if_neg (ne_ 3 (by decide)), if_neg (ne_ 4 (by decide)), if_neg (ne_ 5 (by decide))]
        exact ⟨_, rfl, rfl⟩
  · rw [if_neg c50]
    have h50 : (50 : Int32) ≤ v1 := Int32.not_lt.mp c50
    have n10 : ¬ (10 ≤ v1 ∧ v1 ≤ 21) := fun q => absurd (Int32.le_trans h50 q.2) (by decide)
    have n30 : ¬ (30 ≤ v1 ∧ v1 ≤ 41) := fun q => absurd (Int32.le_trans h50 q.2) (by decide)
    rw [iso_if_n n10, iso_if_n n30]
    by_cases h : 50 ≤ v1 ∧ v1 ≤ 57
    · rw [iso_if_p h, in_if_p h]
      obtain ⟨j, hj, rfl⟩ := le_lit (n := 57) (by decide) ⟨Int32.le_trans (by decide) h50, h.2⟩
      have hj50 : 50 ≤ j := (nI_leI (a := 50) (by decide) (by omega)).mp h50
      rw [show nI j - 50 = nI (j - 50) from pk_sub (b := 50) hj50, inb_nI (show j - 50 < 8 by omega) (by decide), gd_t, gd_t, nI_clamp (by omega), hm (j - 50) (by omega)]
      exact ⟨_, rfl, rfl⟩
    · rw [iso_if_n h, in_if_n h]
      have ne_ : ∀ q : Int32, q ≤ 5 → ¬ v1 = q := fun q hq e => absurd (Int32.le_trans h50 (e ▸ hq)) (by decide)
      rw [if_neg (ne_ 0 (by decide)), if_neg (ne_ 1 (by decide)), if_neg (ne_ 2 (by decide)), if_neg (ne_ 3 (by decide)), if_neg (ne_ 4 (by decide)), if_neg (ne_ 5 (by decide))]
      exact ⟨_, rfl, rfl⟩
