/-! a night with masons: class and reference -/
/-- the part found so far (below 0: none), one part more looked at -/
def ffs (ch : Int32) (f : Ar) (p : Nat) (v : Int32) : Int32 :=
  if bitI ch p = 1 then v else if f p ≤ 0 then v else if 99 ≤ f p then v else if v < 0 then nI p else if f v.toNatClampNeg ≤ f p then v else nI p
def ffd (ch : Int32) (f : Ar) : Int32 := gat (ffs ch f) 12 0 (-6)
def bsel (v : Int32) : Int32 := if 0 ≤ v then (1 : Int32) <<< (v &&& 31) else 0
/-- what was found: none, or a part that can be mended -/
def ffI (f : Ar) (p : Nat) (v : Int32) : Prop := v = -6 ∨ ∃ q : Nat, q < p ∧ q < 12 ∧ v = nI q ∧ ¬ f q ≤ 0 ∧ ¬ 99 ≤ f q
theorem ffs_I {ch : Int32} {f : Ar} {p : Nat} {v : Int32} (hp : p < 12) (h : ffI f p v) : ffI f (p + 1) (ffs ch f p v) := by
  have h' : ffI f (p + 1) v := by
    rcases h with h | ⟨q, h1, h2, h3⟩
    · exact Or.inl h
    · exact Or.inr ⟨q, by omega, h2, h3⟩
  unfold ffs
  by_cases c1 : bitI ch p = 1
  · rw [if_pos c1]; exact h'
  rw [if_neg c1]
  by_cases c2 : f p ≤ 0
  · rw [if_pos c2]; exact h'
  rw [if_neg c2]
  by_cases c3 : 99 ≤ f p
  · rw [if_pos c3]; exact h'
  rw [if_neg c3]
  have hn : ffI f (p + 1) (nI p) := Or.inr ⟨p, by omega, hp, rfl, c2, c3⟩
  by_cases c4 : v < 0
  · rw [if_pos c4]; exact hn
  rw [if_neg c4]
  by_cases c5 : f v.toNatClampNeg ≤ f p
  · rw [if_pos c5]; exact h'
  · rw [if_neg c5]; exact hn
theorem ffd_I (ch : Int32) (f : Ar) : ffI f 12 (ffd ch f) := gat_inv (ffI f) 12 0 (-6) (Or.inl rfl) (fun j s _ h2 hI => ffs_I (by omega) hI)
/-- the class looks for the bit and the firmness of the same part -/
def fbs (ch : Int32) (f : Ar) (p : Nat) (s : Int32 × Int32) : Int32 × Int32 :=
  if f p ≤ 0 then s else if s.2 ≤ f p then s else if bitI ch p = 0 then ((1 : Int32) <<< (nI p &&& 31), f p) else s
def fbR (f : Ar) (p : Nat) (s : Int32 × Int32) (v : Int32) : Prop := ffI f p v ∧ s.1 = bsel v ∧ s.2 = if 0 ≤ v then f v.toNatClampNeg else 99
theorem fbR_s {ch : Int32} {f : Ar} {p : Nat} {s : Int32 × Int32} {v : Int32} (hp : p < 12) (h : fbR f p s v) : fbR f (p + 1) (fbs ch f p s) (ffs ch f p v) := by
  obtain ⟨hI, h1, h2⟩ := h
  refine ⟨ffs_I hp hI, ?_⟩
  have hn : (nI p).toNatClampNeg = p := nI_clamp (by omega)
  have hnp : (0 : Int32) ≤ nI p := nI_pos' (by omega)
  unfold fbs ffs
  by_cases c2 : f p ≤ 0
  · rw [if_pos c2, if_pos c2, ite_self]; exact ⟨h1, h2⟩
  rw [if_neg c2, if_neg c2]
  rcases hI with hv | ⟨q, -, hq, hv, q1, q2⟩
  · subst hv
    rw [if_neg (by decide)] at h2
    rw [h2, if_pos (show (-6 : Int32) < 0 by decide)]
    by_cases c3 : 99 ≤ f p
    · rw [if_pos c3, if_pos c3, ite_self, if_neg (by decide)]; exact ⟨h1, h2⟩
    rw [if_neg c3, if_neg c3]
    by_cases c1 : bitI ch p = 1
    · rw [if_pos c1, if_neg (by rw [c1]; decide), if_neg (by decide)]; exact ⟨h1, h2⟩
    · rw [if_neg c1, if_pos ((bitI_or ch (show p < 32 by omega)).resolve_right c1), if_pos hnp, hn]
      unfold bsel
      rw [if_pos hnp]
      exact ⟨rfl, rfl⟩
  · subst hv
    have hq0 : (0 : Int32) ≤ nI q := nI_pos' (by omega)
    have hqn : (nI q).toNatClampNeg = q := nI_clamp (by omega)
    rw [if_pos hq0, hqn] at h2
    rw [h2, if_neg (Int32.not_lt.mpr hq0), hqn]
    by_cases c5 : f q ≤ f p
    · rw [if_pos c5, if_pos c5, ite_self, ite_self, if_pos hq0, hqn]; exact ⟨h1, h2⟩
    rw [if_neg c5, if_neg c5, if_neg (fun q3 => q2 (Int32.le_trans q3 (Int32.le_of_lt (Int32.not_le.mp c5))))]
    by_cases c1 : bitI ch p = 1
    · rw [if_pos c1, if_neg (by rw [c1]; decide), if_pos hq0, hqn]; exact ⟨h1, h2⟩
    · rw [if_neg c1, if_pos ((bitI_or ch (show p < 32 by omega)).resolve_right c1), if_pos hnp, hn]
      unfold bsel
      rw [if_pos hnp]
      exact ⟨rfl, rfl⟩
theorem x3_lfb (ch : Int32) (fi : Ar) : m_X3_leastFirmBeside ch fi = some (bsel (ffd ch fi)) := by
  have h : m_X3_leastFirmBeside ch fi = some (gat (fbs ch fi) 12 0 (0, 99)).1 := by
    refine lp_gat (fun n (s : Int32 × Int32) v => L_X3_leastFirmBeside_8 ch fi n s.1 s.2 v) (fun s => some s.1) 12 (fbs ch fi) (fun _ _ => True) (fun n s _ => rfl) (fun n i s hi _ => ⟨?_, trivial⟩) 12 0 fu (0, 99) rfl (by decide) trivial
    show b_X3_leastFirmBeside_8 (L_X3_leastFirmBeside_8 ch fi n) ch fi s.1 s.2 (nI i) = _
    unfold b_X3_leastFirmBeside_8 fbs
    rw [if_neg (show ¬ (12 : Int32) ≤ nI i from nle_nI (k := 12) (by decide) hi), inb_nI hi (by decide), gd_t, nI_clamp (by omega), nI_1]
    by_cases c2 : fi i ≤ 0
    · rw [if_pos c2, if_pos c2]
    rw [if_neg c2, if_neg c2]
    by_cases c3 : s.2 ≤ fi i
    · rw [if_pos c3, if_pos c3]
    rw [if_neg c3, if_neg c3]
    by_cases c1 : bitI ch i = 0
    · rw [if_pos c1]; exact if_pos c1
    · rw [if_neg c1]; exact if_neg c1
  rw [h]
  exact congrArg some (gat_rel (fbR fi) 12 0 (0, 99) (-6) ⟨Or.inl rfl, rfl, rfl⟩ (fun j s t _ h2 hI => fbR_s (by omega) hI)).2.1
/-- all that are chosen by so many masons -/
def chs (f : Ar) (M : Nat) : Int32 := gat (fun _ ch => ch ||| bsel (ffd ch f)) M 0 0
theorem x3_mend (M : Nat) (hM : M ≤ 12) (fi : Ar) : m_X3_mend (nI M) fi = some (amap 0 12 (fun j x => x + bitI (chs fi M) j) fi) := by
  have h28 : ∀ ch : Int32, L_X3_mend_28 ch fu 0 fi = some (amap 0 12 (fun j x => x + bitI ch j) fi) := by
    intro ch
    refine lp_amap (fun n v f => L_X3_mend_28 ch n v f) (fun f => some f) 12 (by decide) _ (fun _ => True) (fun n f _ => rfl) (fun n i f hi _ => ⟨?_, trivial⟩) 12 0 fu fi rfl (by decide) trivial
    show b_X3_mend_28 (L_X3_mend_28 ch n) ch (nI i) f = _
    unfold b_X3_mend_28
    rw [if_neg (show ¬ (12 : Int32) ≤ nI i from nle_nI (k := 12) (by decide) hi), inb_nI hi (by decide), gd_t, bnd_eq, nI_clamp (by omega), nI_1]
    rfl
  rw [← h28]
  refine lp_gat (fun n s v => L_X3_mend_4 (nI M) fi n s v) (fun s => L_X3_mend_28 s fu 0 fi) M (fun _ ch => ch ||| bsel (ffd ch fi)) (fun _ _ => True) (fun n s _ => ?_) (fun n i s hi _ => ⟨?_, trivial⟩) M 0 fu 0 (by omega) (by show M < 5000; omega) trivial
  · show b_X3_mend_4 (L_X3_mend_4 (nI M) fi n) (nI M) fi s (nI M) = _
    unfold b_X3_mend_4
    rw [if_pos (Int32.le_refl _)]
  · show b_X3_mend_4 (L_X3_mend_4 (nI M) fi n) (nI M) fi s (nI i) = _
    unfold b_X3_mend_4
    rw [if_neg (nle_nI (by omega) hi), x3_lfb, ob1_s, nI_1]
theorem x5_mend (M : Nat) (hM : M ≤ 12) (nw : Ar) (h13 : nw 13 = nI M) : m_X5_mend nw = some (amap 0 12 (fun j x => x + bitI (chs nw M) j) nw) := by
  have h126 : ∀ ch : Int32, L_X5_mend_126 ch fu 0 nw = some (amap 0 12 (fun j x => x + bitI ch j) nw) := by
    intro ch
    refine lp_amap (fun n v f => L_X5_mend_126 ch n v f) (fun f => some f) 12 (by decide) _ (fun _ => True) (fun n f _ => rfl) (fun n i f hi _ => ⟨?_, trivial⟩) 12 0 fu nw rfl (by decide) trivial
    show b_X5_mend_126 (L_X5_mend_126 ch n) ch (nI i) f = _
    unfold b_X5_mend_126 j_X5_mend_152
    rw [if_neg (show ¬ (12 : Int32) ≤ nI i from nle_nI (k := 12) (by decide) hi), inb_nI (show i < 15 by omega) (by decide), gd_t, gd_t, gd_t, nI_clamp (by omega), nI_1, has_eq]
    rcases bitI_or ch (show i < 32 by omega) with h | h
    · rw [h]; rfl
    · rw [h]; rfl
  have h21 : ∀ (k4 : Int32 → Int32 → Option Ar) (ch v2 : Int32), L_X5_mend_21 k4 ch v2 nw fu (-6) 0 = k4 (ch ||| bsel (ffd ch nw)) (v2 + 1) := by
    intro k4 ch v2
    refine lp_gat (fun n s v => L_X5_mend_21 k4 ch v2 nw n s v) (fun s => k4 (ch ||| bsel s) (v2 + 1)) 12 (ffs ch nw) (ffI nw) (fun n s _ => ?_) (fun n i s hi hI => ⟨?_, ffs_I hi hI⟩) 12 0 fu (-6) rfl (by decide) (Or.inl rfl)
    · show b_X5_mend_21 k4 (L_X5_mend_21 k4 ch v2 nw n) ch v2 nw s (nI 12) = _
      unfold b_X5_mend_21 bsel
      rw [if_pos (show (12 : Int32) ≤ nI 12 from Int32.le_refl _)]
      by_cases h : 0 ≤ s
      · rw [if_pos h, if_pos h]
      · rw [if_neg h, if_neg h]
    · show b_X5_mend_21 k4 (L_X5_mend_21 k4 ch v2 nw n) ch v2 nw s (nI i) = _
      have h64 : ∀ z : Int32, j_X5_mend_64 k4 (L_X5_mend_21 k4 ch v2 nw n) s (nI i) z nw = L_X5_mend_21 k4 ch v2 nw n (if z = 0 then s else if s < 0 then nI i else if nw s.toNatClampNeg ≤ nw i then s else nI i) (nI (i + 1)) := by
        intro z
        unfold j_X5_mend_64
        rw [nI_1]
        by_cases c1 : z = 0
        · rw [if_pos c1, if_pos c1]
        rw [if_neg c1, if_neg c1]
        by_cases c2 : s < 0
        · rw [if_pos c2, if_pos c2]
        rw [if_neg c2, if_neg c2]
        rcases hI with hv | ⟨q, -, hq, hv, -⟩
        · exact absurd (by rw [hv]; decide) c2
        · rw [hv, inb_nI (show i < 15 by omega) (by decide), inb_nI (show q < 15 by omega) (by decide), gd_t, gd_t, nI_clamp (show i < 2 ^ 31 by omega)]
          by_cases c3 : nw (nI q).toNatClampNeg ≤ nw i
          · rw [if_pos c3, if_pos c3]
          · rw [if_neg c3, if_neg c3]
      unfold b_X5_mend_21 ffs
      rw [if_neg (show ¬ (12 : Int32) ≤ nI i from nle_nI (k := 12) (by decide) hi), h64, h64, has_eq, inb_nI (show i < 15 by omega) (by decide), gd_t, nI_clamp (by omega)]
      by_cases c1 : bitI ch i = 1
      · rw [if_pos c1, if_neg (by decide), if_pos c1, if_pos rfl]
      rw [if_neg c1, if_pos rfl, if_neg c1, if_pos rfl, if_neg (show ¬ (1 : Int32) = 0 by decide)]
      by_cases c2 : nw i ≤ 0
      · rw [if_pos c2, if_pos c2]
      rw [if_neg c2, if_neg c2]
      by_cases c3 : 99 ≤ nw i
      · rw [if_pos c3, if_pos c3]
      · rw [if_neg c3, if_neg c3]
  rw [← h126]
  refine lp_gat (fun n s v => L_X5_mend_4 nw n s v) (fun s => L_X5_mend_126 s fu 0 nw) M (fun _ ch => ch ||| bsel (ffd ch nw)) (fun _ _ => True) (fun n s _ => ?_) (fun n i s hi _ => ⟨?_, trivial⟩) M 0 fu 0 (by omega) (by show M < 5000; omega) trivial
  · show b_X5_mend_4 (L_X5_mend_4 nw n) nw s (nI M) = _
    unfold b_X5_mend_4
    rw [h13, if_pos (Int32.le_refl _)]
  · show b_X5_mend_4 (L_X5_mend_4 nw n) nw s (nI i) = _
    unfold b_X5_mend_4
    rw [h13, if_neg (nle_nI (by omega) hi), h21, nI_1]
theorem ffd_c {f g : Ar} (h : ∀ i, i < 12 → f i = g i) (ch : Int32) : ffd ch f = ffd ch g := by
  refine (gat_rel (fun p (s t : Int32) => s = t ∧ ffI f p s) 12 0 (-6) (-6) ⟨rfl, Or.inl rfl⟩ (fun j s t _ h2 hI => ?_)).1
  obtain ⟨rfl, hI⟩ := hI
  refine ⟨?_, ffs_I (by omega) hI⟩
  unfold ffs
  rw [h j (by omega)]
  rcases hI with hv | ⟨q, -, hq, hv, -⟩
  · rw [hv, if_pos (show (-6 : Int32) < 0 by decide), if_pos (show (-6 : Int32) < 0 by decide)]
  · rw [hv, nI_clamp (by omega), h q hq]
theorem chs_c {f g : Ar} (h : ∀ i, i < 12 → f i = g i) (M : Nat) : chs f M = chs g M := gat_c M 0 0 (fun j s _ _ => by rw [ffd_c h])
/-- only parts that can be mended are chosen -/
theorem chs_ok (f : Ar) (M : Nat) : ∀ j, j < 12 → bitI (chs f M) j = 1 → ¬ f j ≤ 0 ∧ ¬ 99 ≤ f j := by
  refine gat_inv (fun _ (ch : Int32) => ∀ j, j < 12 → bitI ch j = 1 → ¬ f j ≤ 0 ∧ ¬ 99 ≤ f j) M 0 0 (fun j hj h => ?_) (fun i ch _ _ hI j hj h => ?_)
  · rw [bitI_1 _ (by omega), b_0] at h
    cases h
  · rw [bitI_1 _ (by omega), b_or, Bool.or_eq_true] at h
    rcases h with h | h
    · exact hI j hj ((bitI_1 _ (by omega)).mpr h)
    · rcases ffd_I ch f with hv | ⟨q, -, hq, hv, q1, q2⟩
      · rw [hv] at h
        rw [show bsel (-6) = 0 from rfl, b_0] at h
        cases h
      · rw [hv] at h
        unfold bsel at h
        rw [if_pos (nI_pos' (by omega))] at h
        have h3 : bt (oneB q) j = true := h
        rw [bt_one (by omega) (by omega), decide_eq_true_eq] at h3
        subst h3
        exact ⟨q1, q2⟩
