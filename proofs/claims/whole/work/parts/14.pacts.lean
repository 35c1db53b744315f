/-! acts on the wall: class and reference -/
theorem shakes_echo (a b : Int32) : m_X5_shakes a b = m_X4_echo a b := by
  have h : ∀ z : Int32, j_X5_shakes_14 z = j_X4_echo_14 z := by
    intro z
    unfold j_X5_shakes_14 j_X4_echo_14
    by_cases h1 : z ≤ 2
    · rw [if_pos h1]
      by_cases h2 : 2 ≤ z
      · have e : z = 2 := Int32.le_antisymm h1 h2
        subst e
        rfl
      · rw [if_neg h2]
    · rw [if_neg h1, if_pos (Int32.le_of_lt (Int32.not_le.mp h1))]
  unfold m_X5_shakes m_X4_echo
  rw [h, h]
/-- what is left of a part's firmness f behind so much less of it -/
def lf (th : Int32) (j : Nat) (f much : Int32) : Int32 := imax (if f ≤ 0 then 0 else if bitI th j = 1 then 1 else 0) (f - much)
theorem spared_eq {th : Int32} {fi : Ar} {j : Nat} (h : j < 12) : m_X3_isSpared (nI j) th fi = some (if fi j ≤ 0 then 0 else if bitI th j = 1 then 1 else 0) := by
  unfold m_X3_isSpared
  rw [inb_nI h (by decide), gd_t, nI_clamp (by omega)]
  by_cases h1 : fi j ≤ 0
  · rw [if_pos h1, if_pos h1]
  · rw [if_neg h1, if_neg h1]
    by_cases h2 : bitI th j = 1
    · rw [if_pos h2]; exact if_pos h2
    · rw [if_neg h2]; exact if_neg h2
theorem leastLeft_eq {th : Int32} {fi : Ar} {j : Nat} (h : j < 12) : m_X3_leastLeft (nI j) th fi = some (if fi j ≤ 0 then 0 else if bitI th j = 1 then 1 else 0) := by
  unfold m_X3_leastLeft
  rw [spared_eq h]
  by_cases h1 : fi j ≤ 0
  · rw [if_pos h1]; rfl
  · rw [if_neg h1]
    by_cases h2 : bitI th j = 1
    · rw [if_pos h2]; rfl
    · rw [if_neg h2]; rfl
theorem x3_blow (v1 th : Int32) (fi to : Ar) : m_X3_blow v1 th fi to = some (amap 0 12 (fun j x => lf th j x (m_X4_echo v1 (to j))) fi) := by
  refine lp_amap (fun n v f => L_X3_blow_2 v1 th to n v f) (fun f => some f) 12 (by decide) _ (fun _ => True) (fun n f _ => rfl) (fun n i f hi _ => ⟨?_, trivial⟩) 12 0 fu fi rfl (by decide) trivial
  show b_X3_blow_2 (L_X3_blow_2 v1 th to n) v1 th to (nI i) f = _
  unfold b_X3_blow_2
  rw [if_neg (show ¬ (12 : Int32) ≤ nI i from nle_nI (k := 12) (by decide) hi), leastLeft_eq hi, ob1_s, inb_nI hi (by decide), gd_t, bnd_eq, nI_clamp (by omega), nI_1]
  rfl
theorem x3_letOut (th he : Int32) (fi : Ar) : m_X3_letOut th he fi = some (0, amap 0 12 (fun j x => lf th j x he) fi) := by
  refine lp_amap (fun n v f => L_X3_letOut_2 th he n v f) (fun f => some (0, f)) 12 (by decide) _ (fun _ => True) (fun n f _ => rfl) (fun n i f hi _ => ⟨?_, trivial⟩) 12 0 fu fi rfl (by decide) trivial
  show b_X3_letOut_2 (L_X3_letOut_2 th he n) th he (nI i) f = _
  unfold b_X3_letOut_2
  rw [if_neg (show ¬ (12 : Int32) ≤ nI i from nle_nI (k := 12) (by decide) hi), leastLeft_eq hi, ob1_s, inb_nI hi (by decide), gd_t, nI_clamp (by omega), nI_1]
  rfl
theorem has_eq (x : Int32) (j : Nat) : m_X5_has x (nI j) = if bitI x j = 1 then 1 else 0 := rfl
theorem x5_less {th much : Int32} {nw : Ar} {j : Nat} (h : j < 12) : m_X5_less (nI j) much th nw = some (upd nw j (lf th j (nw j) much)) := by
  have h25 : ∀ z : Int32, j_X5_less_25 (nI j) much z nw = some (upd nw j (imax z (nw j - much))) := by
    intro z
    unfold j_X5_less_25 j_X5_less_55
    rw [inb_nI (show j < 15 by omega) (by decide), gd_t, gd_t, gd_t, nI_clamp (by omega)]
    unfold imax
    by_cases h1 : z ≤ nw j - much
    · rw [if_pos h1]
      by_cases h2 : z < nw j - much
      · rw [if_pos h2]
      · rw [if_neg h2, Int32.le_antisymm h1 (Int32.not_lt.mp h2)]
    · rw [if_neg h1, if_neg (fun q => h1 (Int32.le_of_lt q))]
  unfold m_X5_less
  rw [has_eq, h25, h25, inb_nI (show j < 15 by omega) (by decide), gd_t, nI_clamp (by omega)]
  unfold lf
  by_cases h2 : bitI th j = 1
  · rw [if_pos h2, if_neg (by decide)]
    by_cases h1 : nw j ≤ 0
    · rw [if_pos h1, if_pos h1]
    · rw [if_neg h1, if_neg h1]
  · rw [if_neg h2, if_pos rfl]
    by_cases h1 : nw j ≤ 0
    · rw [if_pos h1]
    · rw [if_neg h1]
theorem x5_blow (v1 th : Int32) (nw to : Ar) : m_X5_blow v1 th nw to = some (amap 0 12 (fun j x => lf th j x (m_X4_echo v1 (to j))) nw) := by
  refine lp_amap (fun n v f => L_X5_blow_2 v1 th to n v f) (fun f => some f) 12 (by decide) _ (fun _ => True) (fun n f _ => rfl) (fun n i f hi _ => ⟨?_, trivial⟩) 12 0 fu nw rfl (by decide) trivial
  show b_X5_blow_2 (L_X5_blow_2 v1 th to n) v1 th to (nI i) f = _
  unfold b_X5_blow_2
  rw [if_neg (show ¬ (12 : Int32) ≤ nI i from nle_nI (k := 12) (by decide) hi), inb_nI hi (by decide), gd_t, x5_less hi, ob1_s, nI_clamp (by omega), shakes_echo, nI_1]
theorem x5_cry (th : Int32) (nw : Ar) : m_X5_cry th nw = some (upd (amap 0 12 (fun j x => lf th j x (nw 12)) nw) 12 0) := by
  refine lp_amap (fun n v f => L_X5_cry_2 th n v f) (fun f => some (upd f 12 0)) 12 (by decide) _ (fun f => f 12 = nw 12) (fun n f _ => rfl) (fun n i f hi hI => ⟨?_, by rw [upd_ne (by omega)]; exact hI⟩) 12 0 fu nw rfl (by decide) rfl
  show b_X5_cry_2 (L_X5_cry_2 th n) th (nI i) f = _
  unfold b_X5_cry_2
  rw [if_neg (show ¬ (12 : Int32) ≤ nI i from nle_nI (k := 12) (by decide) hi), x5_less hi, ob1_s, hI, nI_1]
theorem x5_asNow (bk nw : Ar) : m_X5_asNow bk nw = some (amap 0 15 (fun j _ => bk j) nw) := by
  refine lp_amap (fun n v f => L_X5_asNow_2 bk n v f) (fun f => some f) 15 (by decide) _ (fun _ => True) (fun n f _ => rfl) (fun n i f hi _ => ⟨?_, trivial⟩) 15 0 fu nw rfl (by decide) trivial
  show b_X5_asNow_2 (L_X5_asNow_2 bk n) bk (nI i) f = _
  unfold b_X5_asNow_2
  rw [if_neg (show ¬ (15 : Int32) ≤ nI i from nle_nI (k := 15) (by decide) hi), inb_nI hi (by decide), gd_t, nI_clamp (by omega), nI_1]
/-- which parts are down -/
def dbF (f : Ar) : Int32 := gat (fun k a => if f k = 0 then a ||| ((1 : Int32) <<< (nI k &&& 31)) else a) 12 0 0
theorem dbF_c {f g : Ar} (h : ∀ i, i < 12 → f i = g i) : dbF f = dbF g := gat_c 12 0 0 (fun j s _ h2 => by rw [h j (by omega)])
theorem x3_down (fi : Ar) : m_X3_downBits fi = some (dbF fi) := by
  refine lp_gat (fun n s v => L_X3_downBits_4 fi n s v) (fun s => some s) 12 _ (fun _ _ => True) (fun n s _ => rfl) (fun n i s hi _ => ⟨?_, trivial⟩) 12 0 fu 0 rfl (by decide) trivial
  show b_X3_downBits_4 (L_X3_downBits_4 fi n) fi s (nI i) = _
  unfold b_X3_downBits_4
  rw [if_neg (show ¬ (12 : Int32) ≤ nI i from nle_nI (k := 12) (by decide) hi), inb_nI hi (by decide), gd_t, nI_clamp (by omega), nI_1]
  by_cases h : fi i = 0
  · rw [if_pos h, if_pos h]
  · rw [if_neg h, if_neg h]
theorem x5_down (nw : Ar) : m_X5_downSet nw = some (dbF nw) := by
  refine lp_gat (fun n s v => L_X5_downSet_4 nw n s v) (fun s => some s) 12 _ (fun _ _ => True) (fun n s _ => rfl) (fun n i s hi _ => ⟨?_, trivial⟩) 12 0 fu 0 rfl (by decide) trivial
  show b_X5_downSet_4 (L_X5_downSet_4 nw n) nw s (nI i) = _
  unfold b_X5_downSet_4
  rw [if_neg (show ¬ (12 : Int32) ≤ nI i from nle_nI (k := 12) (by decide) hi), inb_nI (show i < 15 by omega) (by decide), gd_t, nI_clamp (by omega), nI_1, Int32.or_zero]
  by_cases h : nw i = 0
  · rw [if_pos h, if_pos h]
  · rw [if_neg h, if_neg h]
