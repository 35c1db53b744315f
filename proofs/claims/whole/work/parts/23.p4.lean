/-! who speaks in the end -/
def spP (ne : Ar) (silent who : Int32) (k : Nat) : Bool := !bt silent k && (!bt who k && !decide (bitsF who < ne k))
def spF (ne : Ar) (silent who : Int32) : Int32 := who ||| gor (spP ne silent who) 8
theorem spF_small {ne : Ar} {silent who : Int32} (h : smallB 8 who) : smallB 8 (spF ne silent who) := small_or h (small_gor _ 8 (by decide))
theorem small_up {m n : Nat} {x : Int32} (h : smallB m x) (hmn : m ≤ n) : smallB n x := fun i hi => h i (by omega)
theorem x1_moved {ne : Ar} {who : Int32} (h : smallB 8 who) : m_X1_moved who ne = some (gor (fun k => !bt who k && !decide (bitsF who < ne k)) 8) := by
  unfold m_X1_moved
  rw [pc_small (small_up h (by decide))]
  refine lp_gat (fun n s v => L_X1_moved_10 who (bitsF who) ne n s v) (fun s => some s) 8 (fun k a => if (!bt who k && !decide (bitsF who < ne k)) = true then a ||| oneB k else a) (fun _ _ => True) (fun n s _ => rfl) (fun n i s hi _ => ⟨?_, trivial⟩) 8 0 fu 0 rfl (by decide) trivial
  show b_X1_moved_10 (L_X1_moved_10 who (bitsF who) ne n) who (bitsF who) ne s (nI i) = _
  unfold b_X1_moved_10
  rw [if_neg (show ¬ (8 : Int32) ≤ nI i from nle_nI (k := 8) (by decide) hi), inb_nI hi (by decide), gd_t, nI_clamp (by omega), nI_1]
  cases hb : bt who i
  · rw [if_pos (show (who >>> (nI i &&& 31)) &&& 1 = 0 from (bitI_0 who (by omega)).mpr hb)]
    by_cases hl : bitsF who < ne i
    · rw [if_pos hl, decide_eq_true hl]; rfl
    · rw [if_neg hl, decide_eq_false hl]; rfl
  · rw [if_neg (show ¬ (who >>> (nI i &&& 31)) &&& 1 = 0 from fun q => by rw [(bitI_0 who (by omega)).mp q] at hb; cases hb)]; rfl
theorem sp_step {ne : Ar} {silent who : Int32} : who ||| (gor (fun k => !bt who k && !decide (bitsF who < ne k)) 8 &&& (silent ^^^ (-1))) = spF ne silent who := by
  apply b_ext
  intro i hi
  unfold spF spP
  rw [b_or, b_or, b_and, b_not _ hi, bt_gor _ 8 (by decide), bt_gor _ 8 (by decide)]
  cases bt who i <;> cases bt silent i <;> cases decide (i < 8) <;> cases decide (bitsF who < ne i) <;> rfl
theorem gat_fix {σ : Type} {f : σ → σ} {x : σ} (h : f x = x) : ∀ c i : Nat, gat (fun _ s => f s) c i x = x
  | 0, _ => rfl
  | c + 1, i => by
    show gat (fun _ s => f s) c (i + 1) (f x) = x
    rw [h]
    exact gat_fix h c (i + 1)
theorem x1_speakers {ne : Ar} {silent who : Int32} (h : smallB 8 who) : m_X1_speakers who silent ne = some (gat (fun _ s => spF ne silent s) 8 0 who) := by
  have key : ∀ (c i n : Nat) (s : Int32), i + c = 8 → c < n → smallB 8 s → L_X1_speakers_5 silent ne n s (nI i) = some (gat (fun _ s => spF ne silent s) c i s) := by
    intro c
    induction c with
    | zero =>
      intro i n s h1 hn hs
      obtain ⟨n, rfl⟩ : ∃ w, n = w + 1 := ⟨n - 1, by omega⟩
      have e : i = 8 := by omega
      subst e
      rfl
    | succ c ih =>
      intro i n s h1 hn hs
      obtain ⟨n, rfl⟩ : ∃ w, n = w + 1 := ⟨n - 1, by omega⟩
      show b_X1_speakers_5 (L_X1_speakers_5 silent ne n) silent ne s (nI i) = _
      unfold b_X1_speakers_5
      rw [if_neg (show ¬ (8 : Int32) ≤ nI i from nle_nI (k := 8) (by decide) (by omega)), x1_moved hs, ob1_s, sp_step, nI_1]
      by_cases q : spF ne silent s = s
      · rw [if_pos q, gat_fix q]
      · rw [if_neg q, ih (i + 1) n _ (by omega) (by omega) (spF_small hs)]
        rfl
  exact key 8 0 fu who rfl (by decide) h
theorem x5_speaks {ne zne : Ar} (hn : ∀ i, i < 8 → zne i = ne i) (silent who : Int32) : m_X5_speaks who silent zne = some (gat (fun _ s => spF ne silent s) 8 0 who) := by
  have h18 : ∀ (K : Int32 → Int32 → Option Int32) (v3 : Int32) (i : Nat), L_X5_speaks_18 K silent v3 (nI i) zne fu v3 0 = K (spF ne silent v3) (nI (i + 1)) := by
    intro K v3 i
    have h := lp_gat (fun n s v => L_X5_speaks_18 K silent v3 (nI i) zne n s v) (fun s => K s (nI (i + 1))) 8 (fun k a => if spP ne silent v3 k = true then a ||| oneB k else a) (fun _ _ => True) (fun n s _ => ?_) (fun n j s hj _ => ⟨?_, trivial⟩) 8 0 fu v3 rfl (by decide) trivial
    · refine Eq.trans h ?_
      congr 1
      have hg : ∀ (c j : Nat) (s : Int32), gat (fun k a => if spP ne silent v3 k = true then a ||| oneB k else a) c j (v3 ||| s) = v3 ||| gat (fun k a => if spP ne silent v3 k = true then a ||| oneB k else a) c j s := by
        intro c
        induction c with
        | zero => intro j s; rfl
        | succ c ih =>
          intro j s
          show gat _ c (j + 1) (if spP ne silent v3 j = true then (v3 ||| s) ||| oneB j else v3 ||| s) = v3 ||| gat _ c (j + 1) (if spP ne silent v3 j = true then s ||| oneB j else s)
          by_cases q : spP ne silent v3 j = true
          · rw [if_pos q, if_pos q, Int32.or_assoc, ih]
          · rw [if_neg q, if_neg q, ih]
      have h0 := hg 8 0 0
      rw [Int32.or_zero] at h0
      exact h0
    · show b_X5_speaks_18 K (L_X5_speaks_18 K silent v3 (nI i) zne n) silent v3 (nI i) zne s (nI 8) = _
      unfold b_X5_speaks_18
      rw [if_pos (show (8 : Int32) ≤ nI 8 from Int32.le_refl _), nI_1]
    · show b_X5_speaks_18 K (L_X5_speaks_18 K silent v3 (nI i) zne n) silent v3 (nI i) zne s (nI j) = _
      unfold b_X5_speaks_18
      rw [if_neg (show ¬ (8 : Int32) ≤ nI j from nle_nI (k := 8) (by decide) hj), has_eq, has_eq, bits_eq, ob1_s, inb_nI hj (by decide), gd_t, nI_clamp (by omega), Int32.or_zero, nI_1, hn j hj]
      unfold spP
      cases hs : bt silent j
      · have n1 : ¬ bitI silent j = 1 := fun q => by rw [(bitI_1 silent (by omega)).mp q] at hs; cases hs
        rw [if_neg n1, if_pos rfl]
        cases hw : bt v3 j
        · have n2 : ¬ bitI v3 j = 1 := fun q => by rw [(bitI_1 v3 (by omega)).mp q] at hw; cases hw
          rw [if_neg n2, if_pos rfl]
          by_cases hl : bitsF v3 < ne j
          · rw [if_pos hl, decide_eq_true hl]; rfl
          · rw [if_neg hl, decide_eq_false hl]; rfl
        · rw [if_pos ((bitI_1 v3 (by omega)).mpr hw), if_neg (by decide)]; rfl
      · rw [if_pos ((bitI_1 silent (by omega)).mpr hs), if_neg (by decide)]; rfl
  refine lp_gat (fun n s v => L_X5_speaks_5 silent zne n s v) (fun s => some s) 8 (fun _ s => spF ne silent s) (fun _ _ => True) (fun n s _ => rfl) (fun n i s hi _ => ⟨?_, trivial⟩) 8 0 fu who rfl (by decide) trivial
  show b_X5_speaks_5 (L_X5_speaks_5 silent zne n) silent zne s (nI i) = _
  unfold b_X5_speaks_5
  rw [if_neg (show ¬ (8 : Int32) ≤ nI i from nle_nI (k := 8) (by decide) hi), h18]
theorem small_255 {v : Int32} (h : 0 ≤ v ∧ v ≤ 255) : smallB 8 v := by
  obtain ⟨j, hj, rfl⟩ := le_lit (n := 255) (by decide) h
  exact small_nI (m := 8) (by omega)
set_option maxHeartbeats 4000000 in
theorem p_chain (v1 : Int32) (ct : Int32) (sg : Ar) (si : Int32) (ft : Int32) (th : Int32) (he : Int32) (ma : Int32) (ro : Int32) (fi : Ar) (to : Ar) (ne : Ar) (ac : Int32) (wy : Int32) (fa : Int32) (fp : Int32) (thw : Int32) (hew : Int32) (maw : Int32) (row : Int32) (fiw : Ar) (tow : Ar) (zth : Int32) (zsi : Int32) (zsn : Int32) (zre : Int32) (zac : Int32) (zfa : Int32) (zfw : Int32) (zbk : Ar) (znw : Ar) (zto : Ar) (zne : Ar) (zst : Ar) (zpd : Ar) (zcn : Ar) (zig : Ar) (zik : Ar) (hR : CR ct sg si ft th he ma ro fi to ne zth zsi zsn zbk zto zne zst zpd) : ∃ (r : Int32), m_X4_chain v1 ne = some r ∧ m_X5_chain v1 zne = some r ∧ CR ct sg si ft th he ma ro fi to ne zth zsi zsn zbk zto zne zst zpd := by
  suffices h : ∃ r, m_X4_chain v1 ne = some r ∧ m_X5_chain v1 zne = some r by
    obtain ⟨r, a, b⟩ := h
    exact ⟨r, a, b, hR⟩
  unfold m_X4_chain m_X5_chain
  by_cases h1 : 0 ≤ v1 ∧ v1 ≤ 255
  · rw [iso_if_p h1, in_if_p h1, x1_speakers (small_255 h1), x5_speaks hR.2.2.1.1]
    exact ⟨_, rfl, rfl⟩
  · rw [iso_if_n h1, in_if_n h1]
    exact ⟨_, rfl, rfl⟩
theorem nine0 : ∀ a b : Fin 16, ¬ 9 ≤ bitsF (nI (16 * a.val + b.val)) := by decide +kernel
theorem nine {n : Nat} (h : n < 256) : ¬ 9 ≤ bitsF (nI n) := by
  have := nine0 ⟨n / 16, by omega⟩ ⟨n % 16, by omega⟩
  rw [show n = 16 * (n / 16) + n % 16 by omega]
  exact this
/-- the set of the fewest to be kept silent, found so far -/
def qsS (ne : Ar) (set v2 : Int32) (i : Nat) (v : Int32) : Int32 :=
  if nI i &&& set = 0 then (if v < 0 then (if v2 < bitsF (gat (fun _ s => spF ne (nI i) s) 8 0 set) then v else nI i) else if bitsF v ≤ bitsF (nI i) then v else if v2 < bitsF (gat (fun _ s => spF ne (nI i) s) 8 0 set) then v else nI i) else v
def qsI (p : Nat) (v : Int32) : Prop := v = -6 ∨ ∃ q : Nat, q < p ∧ q < 256 ∧ v = nI q
theorem qsS_I {ne : Ar} {set v2 : Int32} {i : Nat} {v : Int32} (hi : i < 256) (h : qsI i v) : qsI (i + 1) (qsS ne set v2 i v) := by
  have h1 : qsI (i + 1) v := by
    rcases h with h | ⟨q, h1, h2, h3⟩
    · exact Or.inl h
    · exact Or.inr ⟨q, by omega, h2, h3⟩
  have h2 : qsI (i + 1) (nI i) := Or.inr ⟨i, by omega, hi, rfl⟩
  unfold qsS
  repeat' split
  all_goals first | exact h1 | exact h2
theorem gat_small {ne : Ar} {silent : Int32} {who : Int32} (h : smallB 8 who) : smallB 8 (gat (fun _ s => spF ne silent s) 8 0 who) := gat_inv (fun _ (s : Int32) => smallB 8 s) 8 0 who h (fun _ _ _ _ hI => spF_small hI)
theorem x1_fewest {ne : Ar} {set : Int32} (v2 : Int32) (h : smallB 8 set) : m_X1_fewestSilent set v2 ne = some (gat (qsS ne set v2) 256 0 (-6)) := by
  let S : Int32 → Int32 × Int32 := fun v => (v, if v < 0 then 9 else bitsF v)
  have key : ∀ (c i n : Nat) (v : Int32), i + c = 256 → c < n → qsI i v → L_X1_fewestSilent_10 set v2 ne n (S v).1 (S v).2 (nI i) = some (gat (qsS ne set v2) c i v) := by
    intro c
    induction c with
    | zero =>
      intro i n v h1 hn _
      obtain ⟨n, rfl⟩ : ∃ w, n = w + 1 := ⟨n - 1, by omega⟩
      have e : i = 256 := by omega
      subst e
      rfl
    | succ c ih =>
      intro i n v h1 hn hI
      obtain ⟨n, rfl⟩ : ∃ w, n = w + 1 := ⟨n - 1, by omega⟩
      show b_X1_fewestSilent_10 (L_X1_fewestSilent_10 set v2 ne n) set v2 ne (S v).1 (S v).2 (nI i) = _
      have ih' := ih (i + 1) n _ (by omega) (by omega) (qsS_I (ne := ne) (set := set) (v2 := v2) (show i < 256 by omega) hI)
      have hi8 : smallB 8 (nI i) := small_nI (m := 8) (by omega)
      refine Eq.trans ?_ ih'
      unfold b_X1_fewestSilent_10
      rw [if_neg (show ¬ (255 : Int32) < nI i from nI_nlt (b := i) (a := 255) (by omega) (by decide)), nI_1, pc_small (small_up hi8 (by decide)), x1_speakers h, ob1_s, pc_small (small_up (gat_small h) (by decide))]
      have hkeep : ∀ w : Int32, w = v → L_X1_fewestSilent_10 set v2 ne n (S v).1 (S v).2 (nI (i + 1)) = L_X1_fewestSilent_10 set v2 ne n (S w).1 (S w).2 (nI (i + 1)) := fun w e => by rw [e]
      have hnew : L_X1_fewestSilent_10 set v2 ne n (nI i) (bitsF (nI i)) (nI (i + 1)) = L_X1_fewestSilent_10 set v2 ne n (S (nI i)).1 (S (nI i)).2 (nI (i + 1)) := by
        show _ = L_X1_fewestSilent_10 set v2 ne n (nI i) (if nI i < 0 then 9 else bitsF (nI i)) (nI (i + 1))
        rw [if_neg (nI_pos (by omega))]
      unfold qsS
      by_cases c1 : nI i &&& set = 0
      · rw [if_pos c1, if_pos c1]
        show (if (if v < 0 then 9 else bitsF v) ≤ bitsF (nI i) then _ else _) = _
        by_cases c2 : v < 0
        · rw [if_pos c2, if_pos c2, if_neg (nine (by omega))]
          by_cases c3 : v2 < bitsF (gat (fun _ s => spF ne (nI i) s) 8 0 set)
          · rw [if_pos c3, if_pos c3]
          · rw [if_neg c3, if_neg c3]; exact hnew
        · rw [if_neg c2, if_neg c2]
          by_cases c4 : bitsF v ≤ bitsF (nI i)
          · rw [if_pos c4, if_pos c4]
          · rw [if_neg c4, if_neg c4]
            by_cases c3 : v2 < bitsF (gat (fun _ s => spF ne (nI i) s) 8 0 set)
            · rw [if_pos c3, if_pos c3]
            · rw [if_neg c3, if_neg c3]; exact hnew
      · rw [if_neg c1, if_neg c1]
  exact key 256 0 fu (-6) rfl (by decide) (Or.inl rfl)
theorem x5_quietL {ne zne : Ar} (hn : ∀ i, i < 8 → zne i = ne i) (set v2 v3 : Int32) : L_X5_quiet_42 set v2 v3 zne fu (-6) 0 = (fun v => if v < 0 then some v else if v3 = 1 then some v else some (bitsF v)) (gat (qsS ne set v2) 256 0 (-6)) := by
  refine lp_gat (fun n s v => L_X5_quiet_42 set v2 v3 zne n s v) (fun v => if v < 0 then some v else if v3 = 1 then some v else some (bitsF v)) 256 (qsS ne set v2) (fun _ _ => True) (fun n s _ => ?_) (fun n i s hi _ => ⟨?_, trivial⟩) 256 0 fu (-6) rfl (by decide) trivial
  · show b_X5_quiet_42 (L_X5_quiet_42 set v2 v3 zne n) set v2 v3 zne s (nI 256) = _
    unfold b_X5_quiet_42
    rw [if_pos (show (256 : Int32) ≤ nI 256 from Int32.le_refl _), bits_eq, ob1_s]
  · show b_X5_quiet_42 (L_X5_quiet_42 set v2 v3 zne n) set v2 v3 zne s (nI i) = _
    have h80 : ∀ z : Int32, j_X5_quiet_80 (L_X5_quiet_42 set v2 v3 zne n) set v2 s (nI i) z zne = L_X5_quiet_42 set v2 v3 zne n (if z = 0 then s else if v2 < bitsF (gat (fun _ s => spF ne (nI i) s) 8 0 set) then s else nI i) (nI (i + 1)) := by
      intro z
      unfold j_X5_quiet_80
      rw [x5_speaks hn, ob1_s, bits_eq, ob1_s, nI_1]
      by_cases c : z = 0
      · rw [if_pos c, if_pos c]
      · rw [if_neg c, if_neg c]
        by_cases c3 : v2 < bitsF (gat (fun _ s => spF ne (nI i) s) 8 0 set)
        · rw [if_pos c3, if_pos c3]
        · rw [if_neg c3, if_neg c3]
    unfold b_X5_quiet_42 qsS
    rw [if_neg (show ¬ (256 : Int32) ≤ nI i from nle_nI (k := 256) (by decide) hi), h80, h80, bits_eq, bits_eq, ob1_s, ob1_s, if_neg (show ¬ (1 : Int32) = 0 by decide), if_pos (rfl : (0 : Int32) = 0)]
    by_cases c1 : nI i &&& set = 0
    · rw [if_pos c1, if_pos c1]
      by_cases c2 : s < 0
      · rw [if_pos c2, if_pos c2]
      · rw [if_neg c2, if_neg c2]
        by_cases c4 : bitsF s ≤ bitsF (nI i)
        · rw [if_pos c4, if_pos c4]
        · rw [if_neg c4, if_neg c4]
    · rw [if_neg c1, if_neg c1]
set_option maxHeartbeats 4000000 in
theorem p_quiet (v1 : Int32) (v2 : Int32) (v3 : Int32) (ct : Int32) (sg : Ar) (si : Int32) (ft : Int32) (th : Int32) (he : Int32) (ma : Int32) (ro : Int32) (fi : Ar) (to : Ar) (ne : Ar) (ac : Int32) (wy : Int32) (fa : Int32) (fp : Int32) (thw : Int32) (hew : Int32) (maw : Int32) (row : Int32) (fiw : Ar) (tow : Ar) (zth : Int32) (zsi : Int32) (zsn : Int32) (zre : Int32) (zac : Int32) (zfa : Int32) (zfw : Int32) (zbk : Ar) (znw : Ar) (zto : Ar) (zne : Ar) (zst : Ar) (zpd : Ar) (zcn : Ar) (zig : Ar) (zik : Ar) (hR : CR ct sg si ft th he ma ro fi to ne zth zsi zsn zbk zto zne zst zpd) : ∃ (r : Int32), m_X4_quiet v1 v2 v3 ne = some r ∧ m_X5_quiet v1 v2 v3 zne = some r ∧ CR ct sg si ft th he ma ro fi to ne zth zsi zsn zbk zto zne zst zpd := by
  suffices h : ∃ r, m_X4_quiet v1 v2 v3 ne = some r ∧ m_X5_quiet v1 v2 v3 zne = some r by
    obtain ⟨r, a, b⟩ := h
    exact ⟨r, a, b, hR⟩
  unfold m_X4_quiet m_X5_quiet
  by_cases h1 : 0 ≤ v1 ∧ v1 ≤ 255
  · by_cases h2 : 0 ≤ v2 ∧ v2 ≤ 8
    · by_cases h3 : 0 ≤ v3 ∧ v3 ≤ 1
      · rw [iso_if_p h1, iso_if_p h2, iso_if_p h3, in_if_p h1, in_if_p h2, in_if_p h3, x1_fewest v2 (small_255 h1), ob1_s, x5_quietL hR.2.2.1.1]
        have hI : qsI 256 (gat (qsS ne v1 v2) 256 0 (-6)) := gat_inv qsI 256 0 (-6) (Or.inl rfl) (fun j s _ h2 hI => qsS_I (by omega) hI)
        generalize gat (qsS ne v1 v2) 256 0 (-6) = v at hI
        rcases hI with rfl | ⟨q, -, hq, rfl⟩
        · refine ⟨-6, ?_, rfl⟩
          by_cases c : v3 = 0
          · rw [if_pos c, if_pos rfl]
          · rw [if_neg c]
        · show ∃ r, _ ∧ (if nI q < 0 then some (nI q) else if v3 = 1 then some (nI q) else some (bitsF (nI q))) = some r
          rw [if_neg (nI_pos (by omega)), if_neg (nIm6 (by omega)), pc_eq (by omega)]
          obtain ⟨j, hj, rfl⟩ := le_lit (n := 1) (by decide) h3
          rcases (show j = 0 ∨ j = 1 by omega) with rfl | rfl
          · exact ⟨_, rfl, rfl⟩
          · exact ⟨_, rfl, rfl⟩
      · rw [iso_if_p h1, iso_if_p h2, iso_if_n h3, in_if_p h1, in_if_p h2, in_if_n h3]; exact ⟨_, rfl, rfl⟩
    · rw [iso_if_p h1, iso_if_n h2, in_if_p h1, in_if_n h2]; exact ⟨_, rfl, rfl⟩
  · rw [iso_if_n h1, in_if_n h1]; exact ⟨_, rfl, rfl⟩
