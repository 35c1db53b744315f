/-! the first fall noted, and the whole walk -/
def nfl (x ac fa fp : Int32) : Int32 × Int32 := if fa = -6 then (match lob x 12 0 with
  | some q => (ac, nI q)
  | none => (fa, fp)) else (fa, fp)
theorem noteFall_eq {x : Int32} (hs : smallB 12 x) (ac fa fp : Int32) : m_X2_noteFall x ac fa fp = some (nfl x ac fa fp) := by
  unfold m_X2_noteFall nfl
  by_cases hx : x = 0
  · rw [if_pos hx]
    have : lob x 12 0 = none := by
      cases h : lob x 12 0 with
      | none => rfl
      | some q =>
        obtain ⟨-, hq, hb, -⟩ := lob_rg x 12 0 q h
        rw [hx, bitI_1 _ (by omega), b_0] at hb
        cases hb
    rw [this]
    by_cases hf : fa = -6
    · rw [if_pos hf]
    · rw [if_neg hf]
  · rw [if_neg hx]
    by_cases hf : fa = -6
    · rw [if_pos hf, if_pos hf]
      cases h : lob x 12 0 with
      | none => exact absurd (lob_zero hs h) hx
      | some q => rw [leastOf_eq h]; rfl
    · rw [if_neg hf, if_neg hf]
theorem nI_m1_neg : nI 0 + (-1) < 0 := by decide
theorem l107_eq (k23 : Int32 → Int32 → Int32 → Int32 → Int32 → Ar → Option (Int32 × Int32 × Int32 × Int32 × Int32 × Ar)) (v1 x re : Int32) (nw : Ar) {a : Nat} (ha : a < 1000) {fa fw : Int32} (hf : fa = -6 ∨ ∃ b, b < a ∧ fa = nI b) :
    L_X5_goRounds_107 k23 v1 x re (nI a) nw fu 11 fa fw = k23 (v1 + 1) re (nI a + 1) (nfl x (nI a) fa fw).1 (nfl x (nI a) fa fw).2 nw := by
  rcases hf with hf | ⟨b, hb, hf⟩
  · subst hf
    -- the state behind the parts from j on
    let S : Option Nat → Int32 × Int32 := fun o => match o with
      | some q => (nI a, nI q)
      | none => (-6, fw)
    have key : ∀ (j n : Nat), j ≤ 12 → j < n → L_X5_goRounds_107 k23 v1 x re (nI a) nw n (nI j + (-1)) (S (lob x (12 - j) j)).1 (S (lob x (12 - j) j)).2 = k23 (v1 + 1) re (nI a + 1) (S (lob x 12 0)).1 (S (lob x 12 0)).2 nw := by
      intro j
      induction j with
      | zero =>
        intro n _ hn
        obtain ⟨n, rfl⟩ : ∃ w, n = w + 1 := ⟨n - 1, by omega⟩
        show b_X5_goRounds_107 k23 (L_X5_goRounds_107 k23 v1 x re (nI a) nw n) v1 x re (nI a) nw (nI 0 + (-1)) _ _ = _
        unfold b_X5_goRounds_107 j_X5_goRounds_160
        rw [if_pos nI_m1_neg]
      | succ j ih =>
        intro n hj hn
        obtain ⟨n, rfl⟩ : ∃ w, n = w + 1 := ⟨n - 1, by omega⟩
        show b_X5_goRounds_107 k23 (L_X5_goRounds_107 k23 v1 x re (nI a) nw n) v1 x re (nI a) nw (nI (j + 1) + (-1)) _ _ = _
        rw [pk_m1]
        have e : 12 - j = (12 - (j + 1)) + 1 := by omega
        have h130 : ∀ o : Option Nat, b_X5_goRounds_107 k23 (L_X5_goRounds_107 k23 v1 x re (nI a) nw n) v1 x re (nI a) nw (nI j) (S o).1 (S o).2 = j_X5_goRounds_130 k23 (L_X5_goRounds_107 k23 v1 x re (nI a) nw n) x (nI j) (nI a) (S o).1 (S o).2 := by
          intro o
          unfold b_X5_goRounds_107
          rw [if_neg (nI_pos (by omega))]
          cases o with
          | none => exact if_pos (show (-6 : Int32) < 0 by decide)
          | some q =>
            show (if nI a < 0 then _ else (if nI a = nI a then _ else _)) = _
            rw [if_neg (nI_pos (by omega)), if_pos rfl]
        rw [h130]
        unfold j_X5_goRounds_130
        rw [has_eq]
        have ih' := ih n (by omega) (by omega)
        rw [e] at ih'
        unfold lob at ih'
        by_cases hb : bitI x j = 1
        · rw [if_pos hb] at ih'
          rw [if_pos hb, if_neg (by decide)]
          exact ih'
        · rw [if_neg hb] at ih'
          rw [if_neg hb, if_pos rfl]
          exact ih'
    have h := key 12 fu (Nat.le_refl _) (by decide)
    have h11 : nI 12 + (-1) = 11 := by decide
    rw [h11] at h
    refine Eq.trans h ?_
    unfold nfl
    rw [if_pos rfl]
  · subst hf
    show b_X5_goRounds_107 k23 (L_X5_goRounds_107 k23 v1 x re (nI a) nw 4999) v1 x re (nI a) nw 11 (nI b) fw = _
    unfold b_X5_goRounds_107 j_X5_goRounds_160 nfl
    rw [if_neg (by decide), if_neg (nI_pos (by omega)), if_neg (fun q => by rw [nI_eq (by omega) (by omega)] at q; omega), if_neg (nIm6 (by omega))]
/-- one act of the class's walk -/
theorem follow_step {k i : Nat} (hk : k ≤ 60) (hi : i < k) (K : Int32 → Int32 → Int32 → Int32 → Int32 → Int32 → Int32 → Ar → Option (Int32 × Int32 × Int32 × Int32 × Int32 × Int32 × Int32 × Int32 × Ar × Ar)) {sg : Ar} (hd : sg i = 104 → i + 1 < k) (th ma : Int32) (to : Ar) (ac wy fa fp he ro : Int32) (fi : Ar) :
    b_X2_follow_32 K th ma to (nI k) sg (nI i) ac wy fa fp he ro fi = if m_X3_obstacle (sg i) he ma ro = 0 then
      (ob3 (m_X3_act (sg i) (if sg i = 104 then sg (i + 1) - 48 else 0) th he ma ro fi to) (fun he2 ro2 fi2 => ob2 (m_X2_noteFall (dbF fi2 &&& (dbF fi ^^^ (-1))) ac fa fp) (fun fa2 fp2 => K (nI (if sg i = 104 then i + 2 else i + 1)) (ac + 1) (m_X3_obstacle (sg i) he ma ro) fa2 fp2 he2 ro2 fi2)))
      else some (ac, m_X3_obstacle (sg i) he ma ro, fa, fp, th, he, ma, ro, fi, to) := by
  have h106 : ∀ (horn : Int32), j_X2_follow_106 K (nI i) (sg i) (dbF fi) horn (sg i) ac (m_X3_obstacle (sg i) he ma ro) fa fp th he ma ro fi to = (ob3 (m_X3_act (sg i) horn th he ma ro fi to) (fun he2 ro2 fi2 => ob2 (m_X2_noteFall (dbF fi2 &&& (dbF fi ^^^ (-1))) ac fa fp) (fun fa2 fp2 => K (nI (if sg i = 104 then i + 2 else i + 1)) (ac + 1) (m_X3_obstacle (sg i) he ma ro) fa2 fp2 he2 ro2 fi2))) := by
    intro horn
    unfold j_X2_follow_106
    congr 1
    funext he2 ro2 fi2
    rw [x3_down, ob1_s]
    congr 1
    funext fa2 fp2
    by_cases h4 : sg i = 104
    · rw [if_pos h4, if_pos h4, show nI i + 2 = nI (i + 2) from nI_add i 2]
    · rw [if_neg h4, if_neg h4, nI_1]
  unfold b_X2_follow_32
  rw [if_neg (nle_nI (by omega) hi), if_neg (show ¬ (60 : Int32) ≤ nI i from nle_nI (k := 60) (by decide) (by omega)), inb_nI (show i < 60 by omega) (by decide), gd_t, nI_clamp (by omega)]
  by_cases ho : m_X3_obstacle (sg i) he ma ro = 0
  · rw [if_pos ho, if_pos ho, x3_down, ob1_s]
    by_cases h4 : sg i = 104
    · have h5 := hd h4
      rw [if_pos h4, if_pos h4]
      have ht : m_X0_toneBehind (nI i) (nI k) sg = some (sg (i + 1) - 48) := by
        unfold m_X0_toneBehind
        rw [nI_1, if_neg (nle_nI (by omega) h5), if_neg (show ¬ (60 : Int32) ≤ nI (i + 1) from nle_nI (k := 60) (by decide) (by omega)), inb_nI (show i + 1 < 60 by omega) (by decide), gd_t, nI_clamp (by omega)]
      rw [ht, ob1_s, h106]
    · rw [if_neg h4, if_neg h4, h106]
  · rw [if_neg ho, if_neg ho]
/-- one act of the reference's walk -/
theorem go_step {k i : Nat} (hk : k ≤ 60) (hi : i < k) (K : Int32 → Int32 → Int32 → Int32 → Int32 → Ar → Option (Int32 × Int32 × Int32 × Int32 × Int32 × Ar)) {pd : Ar} (hd : pd i = 104 → i + 1 < k) (th : Int32) (to : Ar) {a : Nat} (ha : a < 1000) {re fa fw : Int32} (hf : fa = -6 ∨ ∃ b, b < a ∧ fa = nI b) (nw : Ar) :
    b_X5_goRounds_23 K th (nI k) to pd (nI i) re (nI a) fa fw nw = if m_X5_whyNot (pd i) nw ≤ 0 then
      (ob1 (m_X5_act (pd i) (if pd i = 104 then pd (i + 1) - 48 else 0) th nw to) (fun nw2 => K (nI (if pd i = 104 then i + 2 else i + 1)) (m_X5_whyNot (pd i) nw) (nI a + 1) (nfl (dbF nw2 &&& (dbF nw ^^^ (-1))) (nI a) fa fw).1 (nfl (dbF nw2 &&& (dbF nw ^^^ (-1))) (nI a) fa fw).2 nw2))
      else some (nI a, m_X5_whyNot (pd i) nw, nI a, fa, fw, nw) := by
  have h59 : ∀ (v1 horn : Int32), j_X5_goRounds_59 K v1 (pd i) horn th (nI a) fa fw nw to = if m_X5_whyNot (pd i) nw ≤ 0 then
      (ob1 (m_X5_act (pd i) horn th nw to) (fun nw2 => K (v1 + 1) (m_X5_whyNot (pd i) nw) (nI a + 1) (nfl (dbF nw2 &&& (dbF nw ^^^ (-1))) (nI a) fa fw).1 (nfl (dbF nw2 &&& (dbF nw ^^^ (-1))) (nI a) fa fw).2 nw2))
      else some (nI a, m_X5_whyNot (pd i) nw, nI a, fa, fw, nw) := by
    intro v1 horn
    unfold j_X5_goRounds_59
    by_cases ho : m_X5_whyNot (pd i) nw ≤ 0
    · rw [if_pos ho, if_pos ho, x5_down, ob1_s]
      congr 1
      funext nw2
      rw [x5_down, ob1_s, l107_eq K v1 _ _ nw2 ha hf]
    · rw [if_neg ho, if_neg ho]
  unfold b_X5_goRounds_23
  rw [if_neg (nle_nI (by omega) hi), inb_nI (show i < 60 by omega) (by decide), gd_t, nI_clamp (by omega), nI_1, h59, h59]
  by_cases h4 : pd i = 104
  · have h5 := hd h4
    simp only [if_pos h4]
    rw [inb_nI (show i + 1 < 60 by omega) (by decide), gd_t, nI_clamp (by omega), nI_1]
  · simp only [if_neg h4]
    rw [nI_1]
theorem digit_rg {x : Int32} (h : 48 ≤ x ∧ x ≤ 57) : 0 ≤ x - 48 ∧ x - 48 ≤ 9 := by
  obtain ⟨j, hj, rfl⟩ := le_lit (n := 57) (by decide) ⟨Int32.le_trans (by decide) h.1, h.2⟩
  have h2 : 48 ≤ j := (nI_leI (by decide) (by omega)).mp h.1
  rw [show (48 : Int32) = nI 48 from rfl, pk_sub h2]
  exact nI_rg (n := 9) (by omega) (by decide)
/-- the walk of the whole pad -/
theorem walk_sim {k : Nat} (hk : k ≤ 60) {sg pd : Ar} (hp : ∀ i, i < k → sg i = pd i) {th ma : Int32} {to mto : Ar} (ht : ∀ i, i < 12 → mto i = to i) (hGt : Gt to) :
    ∀ (n i a : Nat) (re fa fp he ro : Int32) (fi nw : Ar), i ≤ k → a ≤ i → (∃ N, L_X0_faultPlace_4 (nI k) sg N 0 (nI i) = some (-6)) → Wn fi he ma ro nw → Gw fi he ma ro → (fa = -6 ∨ ∃ b, b < a ∧ fa = nI b) → k - i < n →
    ∃ (a2 : Nat) (wy2 fa2 fp2 he2 ro2 r2 re2 : Int32) (fi2 nw2 : Ar), L_X2_follow_32 th ma to (nI k) sg n (nI i) (nI a) 0 fa fp he ro fi = some (nI a2, wy2, fa2, fp2, th, he2, ma, ro2, fi2, to) ∧
      L_X5_goRounds_23 th (nI k) mto pd n (nI i) re (nI a) fa fp nw = some (r2, re2, nI a2, fa2, fp2, nw2) ∧ Wn fi2 he2 ma ro2 nw2 ∧ Gw fi2 he2 ma ro2 ∧ a2 ≤ 60 ∧ ((r2 = -6 ∧ wy2 = 0) ∨ (r2 = nI a2 ∧ re2 = wy2 ∧ ¬ wy2 = 0)) := by
  intro n
  induction n with
  | zero => intro i a re fa fp he ro fi nw _ _ _ _ _ _ h; omega
  | succ n ih =>
    intro i a re fa fp he ro fi nw hik hai hN hW hG hf hn
    show ∃ (a2 : Nat) (wy2 fa2 fp2 he2 ro2 r2 re2 : Int32) (fi2 nw2 : Ar), b_X2_follow_32 (L_X2_follow_32 th ma to (nI k) sg n) th ma to (nI k) sg (nI i) (nI a) 0 fa fp he ro fi = _ ∧ b_X5_goRounds_23 (L_X5_goRounds_23 th (nI k) mto pd n) th (nI k) mto pd (nI i) re (nI a) fa fp nw = _ ∧ _
    rcases Nat.lt_or_ge i k with hi | hi
    · obtain ⟨N, hN⟩ := hN
      obtain ⟨hsg, hdg, hN2⟩ := fault_next hk hi hN
      rw [follow_step hk hi _ (fun q => (hdg q).1), go_step hk hi _ (fun q => (hdg ((hp i hi).trans q)).1) th mto (show a < 1000 by omega) hf, ← hp i hi, why_eq hsg hW hG]
      by_cases ho : m_X3_obstacle (sg i) he ma ro = 0
      · have hpd : (if sg i = 104 then pd (i + 1) - 48 else 0) = if sg i = 104 then sg (i + 1) - 48 else (0 : Int32) := by
          by_cases h4 : sg i = 104
          · rw [if_pos h4, if_pos h4, hp (i + 1) (hdg h4).1]
          · rw [if_neg h4, if_neg h4]
        obtain ⟨he', ro', fi', nw', h1, h2, h3, h4⟩ := act_eq (th := th) (horn := if sg i = 104 then sg (i + 1) - 48 else 0) hsg (fun q => by rw [if_pos q]; exact digit_rg (hdg q).2) hW hG ht hGt ho
        have hle : m_X3_obstacle (sg i) he ma ro ≤ 0 := by rw [ho]; exact Int32.le_refl _
        have hdb : dbF nw' &&& (dbF nw ^^^ (-1)) = dbF fi' &&& (dbF fi ^^^ (-1)) := by rw [dbF_c h3.1, dbF_c hW.1]
        rw [if_pos ho, if_pos hle, hpd, h1, ob3_s, h2, ob1_s, noteFall_eq (small_and (small_dbF fi') _), hdb]
        generalize hx : dbF fi' &&& (dbF fi ^^^ (-1)) = x
        have hnf : (nfl x (nI a) fa fp).1 = -6 ∨ ∃ b, b < a + 1 ∧ (nfl x (nI a) fa fp).1 = nI b := by
          have hf' : fa = -6 ∨ ∃ b, b < a + 1 ∧ fa = nI b := by
            rcases hf with q | ⟨b, q1, q2⟩
            · exact Or.inl q
            · exact Or.inr ⟨b, by omega, q2⟩
          unfold nfl
          by_cases h6 : fa = -6
          · rw [if_pos h6]
            cases lob x 12 0 with
            | none => exact hf'
            | some q => exact Or.inr ⟨a, by omega, rfl⟩
          · rw [if_neg h6]; exact hf'
        generalize hy : nfl x (nI a) fa fp = y at hnf
        obtain ⟨fa', fp'⟩ := y
        rw [nI_1, ho]
        refine ih (if sg i = 104 then i + 2 else i + 1) (a + 1) 0 fa' fp' he' ro' fi' nw' ?_ ?_ hN2 h3 h4 hnf ?_
        · by_cases h5 : sg i = 104
          · rw [if_pos h5]; have := (hdg h5).1; omega
          · rw [if_neg h5]; omega
        · by_cases h5 : sg i = 104
          · rw [if_pos h5]; omega
          · rw [if_neg h5]; omega
        · by_cases h5 : sg i = 104
          · rw [if_pos h5]; omega
          · rw [if_neg h5]; omega
      · have hle : ¬ m_X3_obstacle (sg i) he ma ro ≤ 0 := by
          intro q
          apply ho
          unfold m_X3_obstacle at q ⊢
          revert q
          split
          · split <;> decide
          · split
            · split <;> decide
            · split <;> decide
        rw [if_neg ho, if_neg hle]
        exact ⟨a, _, fa, fp, he, ro, _, _, fi, nw, rfl, rfl, hW, hG, by omega, Or.inr ⟨rfl, rfl, ho⟩⟩
    · have e : i = k := by omega
      subst e
      unfold b_X2_follow_32 b_X5_goRounds_23
      rw [if_pos (Int32.le_refl _), if_pos (Int32.le_refl _)]
      exact ⟨a, 0, fa, fp, he, ro, -6, re, fi, nw, rfl, rfl, hW, hG, by omega, Or.inl ⟨rfl, rfl⟩⟩
