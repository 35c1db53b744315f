/-! an act on both sides, and what stays in its range -/
def Wn (fi : Ar) (he ma ro : Int32) (nw : Ar) : Prop := (∀ i, i < 12 → nw i = fi i) ∧ nw 12 = he ∧ nw 13 = ma ∧ nw 14 = ro
def Gf (fi : Ar) : Prop := ∀ i, i < 12 → 0 ≤ fi i ∧ fi i ≤ 99
def Gt (to : Ar) : Prop := ∀ i, i < 12 → 0 ≤ to i ∧ to i ≤ 9
def Gw (fi : Ar) (he ma ro : Int32) : Prop := Gf fi ∧ (0 ≤ he ∧ he ≤ 99) ∧ (0 ≤ ma ∧ ma ≤ 12) ∧ (0 ≤ ro ∧ ro ≤ 99)
def isSign (s : Int32) : Prop := s = 46 ∨ s = 104 ∨ s = 33 ∨ s = 110
theorem le_lit {x : Int32} {n : Nat} (hn : n < 2 ^ 31) (h : 0 ≤ x ∧ x ≤ nI n) : ∃ j : Nat, j ≤ n ∧ x = nI j := rgN hn h.1 h.2
theorem echo_rg0 : ∀ a b : Fin 10, 0 ≤ m_X4_echo (nI a.val) (nI b.val) ∧ m_X4_echo (nI a.val) (nI b.val) ≤ 2 := by decide +kernel
theorem echo_rg {a b : Int32} (ha : 0 ≤ a ∧ a ≤ 9) (hb : 0 ≤ b ∧ b ≤ 9) : 0 ≤ m_X4_echo a b ∧ m_X4_echo a b ≤ 2 := by
  obtain ⟨i, hi, rfl⟩ := le_lit (n := 9) (by decide) ha
  obtain ⟨j, hj, rfl⟩ := le_lit (n := 9) (by decide) hb
  exact echo_rg0 ⟨i, by omega⟩ ⟨j, by omega⟩
theorem lf_rg {th f much : Int32} {j : Nat} (hf : 0 ≤ f ∧ f ≤ 99) (hm : 0 ≤ much ∧ much ≤ 99) : 0 ≤ lf th j f much ∧ lf th j f much ≤ 99 := by
  obtain ⟨a, ha, rfl⟩ := le_lit (n := 99) (by decide) hf
  obtain ⟨b, hb, rfl⟩ := le_lit (n := 99) (by decide) hm
  unfold lf imax
  have key : ∀ z : Int32, 0 ≤ z ∧ z ≤ 99 → 0 ≤ (if z < nI a - nI b then nI a - nI b else z) ∧ (if z < nI a - nI b then nI a - nI b else z) ≤ 99 := by
    intro z hz
    by_cases h : z < nI a - nI b
    · rw [if_pos h]
      refine ⟨Int32.le_trans hz.1 (Int32.le_of_lt h), ?_⟩
      rw [Int32.le_iff_toInt_le, pk_sub_toInt (by omega) (by omega)]
      have : (99 : Int32).toInt = 99 := by decide
      omega
    · rw [if_neg h]; exact hz
  apply key
  by_cases h1 : nI a ≤ 0
  · rw [if_pos h1]; decide
  · rw [if_neg h1]
    by_cases h2 : bitI th j = 1
    · rw [if_pos h2]; decide
    · rw [if_neg h2]; decide
theorem he_step0 : ∀ h : Fin 100, imin 99 (nI h.val + 1) = nI h.val + (if 99 ≤ nI h.val then 0 else 1) ∧ 0 ≤ imin 99 (nI h.val + 1) ∧ imin 99 (nI h.val + 1) ≤ 99 := by decide +kernel
theorem he_step {he : Int32} (h : 0 ≤ he ∧ he ≤ 99) : imin 99 (he + 1) = he + (if 99 ≤ he then 0 else 1) ∧ 0 ≤ imin 99 (he + 1) ∧ imin 99 (he + 1) ≤ 99 := by
  obtain ⟨a, ha, rfl⟩ := le_lit (n := 99) (by decide) h
  exact he_step0 ⟨a, by omega⟩
theorem ro_step {ro : Int32} (h : 0 ≤ ro ∧ ro ≤ 99) (h2 : ro < 99) : 0 ≤ ro + 1 ∧ ro + 1 ≤ 99 := by
  obtain ⟨a, ha, rfl⟩ := le_lit (n := 99) (by decide) h
  have : a < 99 := (nI_ltI (by omega) (by decide)).mp h2
  rw [nI_1]
  exact nI_rg (n := 99) (by omega) (by decide)
theorem Gf_amap {fi : Ar} {g : Nat → Int32 → Int32} (h : ∀ i, i < 12 → 0 ≤ g i (fi i) ∧ g i (fi i) ≤ 99) : Gf (amap 0 12 g fi) := fun i hi => by
  rw [amap_in (Nat.zero_le _) hi]; exact h i hi
/-- why an act can't be: the same on both sides -/
theorem why_eq {s he ma ro : Int32} {fi nw : Ar} (hs : isSign s) (hW : Wn fi he ma ro nw) (hG : Gw fi he ma ro) : m_X5_whyNot s nw = m_X3_obstacle s he ma ro := by
  obtain ⟨-, h12, h13, h14⟩ := hW
  obtain ⟨-, -, -, hr0, hr⟩ := hG
  unfold m_X5_whyNot m_X3_obstacle j_X5_whyNot_17
  rw [h12, h13, h14]
  have hro : (if ro = 99 then (1 : Int32) else 0) = if ro < 99 then 0 else 1 := by
    by_cases h : ro = 99
    · subst h; rfl
    · rw [if_neg h, if_pos (Int32.lt_of_le_of_ne hr h)]
  rcases hs with rfl | rfl | rfl | rfl
  · exact hro
  · exact hro
  · rfl
  · rfl
theorem act_eq {s horn th he ma ro : Int32} {fi to mto nw : Ar} (hs : isSign s) (hh : s = 104 → 0 ≤ horn ∧ horn ≤ 9) (hW : Wn fi he ma ro nw) (hG : Gw fi he ma ro) (ht : ∀ i, i < 12 → mto i = to i) (hGt : Gt to) (ho : m_X3_obstacle s he ma ro = 0) :
    ∃ (he' ro' : Int32) (fi' nw' : Ar), m_X3_act s horn th he ma ro fi to = some (he', ro', fi') ∧ m_X5_act s horn th nw mto = some nw' ∧ Wn fi' he' ma ro' nw' ∧ Gw fi' he' ma ro' := by
  obtain ⟨hf, h12, h13, h14⟩ := hW
  obtain ⟨hGf, hGh, hGm, hGr⟩ := hG
  have hro : s = 46 ∨ s = 104 → ro < 99 := by
    intro h
    rcases Int32.lt_or_le ro 99 with q | q
    · exact q
    · exfalso
      have : m_X3_obstacle s he ma ro = 1 := by
        unfold m_X3_obstacle
        rcases h with rfl | rfl
        · rw [if_neg (by decide), if_neg (by decide), if_neg (Int32.not_lt.mpr q)]
        · rw [if_neg (by decide), if_neg (by decide), if_neg (Int32.not_lt.mpr q)]
      rw [this] at ho
      exact absurd ho (by decide)
  rcases hs with rfl | rfl | rfl | rfl
  · -- silence
    refine ⟨imin 99 (he + 1), ro + 1, fi, upd (upd nw 12 (imin 99 (he + 1))) 14 (ro + 1), ?_, ?_, ⟨fun i hi => ?_, ?_, ?_, ?_⟩, hGf, (he_step hGh).2, hGm, ro_step hGr (hro (Or.inl rfl))⟩
    · unfold m_X3_act; rw [if_neg (by decide), if_pos rfl]
    · unfold m_X5_act j_X5_act_61
      rw [if_neg (by decide), if_pos rfl, show inb 12 15 = true from rfl, gd_t, gd_t, bnd_eq, bnd_eq, h12, show Int32.toNatClampNeg 12 = 12 from rfl, upd_ne (show (14 : Nat) ≠ 12 by decide), upd_ne (show (14 : Nat) ≠ 12 by decide), h14, (he_step hGh).1]
      by_cases h : 99 ≤ he
      · rw [if_pos h, if_pos h]
      · rw [if_neg h, if_neg h]
    · rw [upd_ne (by omega), upd_ne (by omega)]; exact hf i hi
    · rw [upd_ne (by decide), upd_at]
    · rw [upd_ne (by decide), upd_ne (by decide)]; exact h13
    · rw [upd_at]
  · -- horns
    have hmuch : ∀ i, i < 12 → 0 ≤ m_X4_echo horn (to i) ∧ m_X4_echo horn (to i) ≤ 99 := fun i hi => ⟨(echo_rg (hh rfl) (hGt i hi)).1, Int32.le_trans (echo_rg (hh rfl) (hGt i hi)).2 (by decide)⟩
    refine ⟨he, ro + 1, amap 0 12 (fun j x => lf th j x (m_X4_echo horn (to j))) fi, upd (amap 0 12 (fun j x => lf th j x (m_X4_echo horn (mto j))) nw) 14 (ro + 1), ?_, ?_, ⟨fun i hi => ?_, ?_, ?_, ?_⟩, Gf_amap (fun i hi => lf_rg (hGf i hi) (hmuch i hi)), hGh, hGm, ro_step hGr (hro (Or.inr rfl))⟩
    · unfold m_X3_act; rw [if_neg (by decide), if_neg (by decide), if_pos rfl, x3_blow]; rfl
    · unfold m_X5_act; rw [if_neg (by decide), if_neg (by decide), if_pos rfl, x5_blow, ob1_s, amap_out (show 12 ≤ 14 by decide), h14]
    · rw [upd_ne (by omega), amap_in (Nat.zero_le _) hi, amap_in (Nat.zero_le _) hi, hf i hi, ht i hi]
    · rw [upd_ne (by decide), amap_out (by decide)]; exact h12
    · rw [upd_ne (by decide), amap_out (by decide)]; exact h13
    · rw [upd_at]
  · -- a shout
    refine ⟨0, ro, amap 0 12 (fun j x => lf th j x he) fi, upd (amap 0 12 (fun j x => lf th j x (nw 12)) nw) 12 0, ?_, ?_, ⟨fun i hi => ?_, ?_, ?_, ?_⟩, Gf_amap (fun i hi => lf_rg (hGf i hi) hGh), by decide, hGm, hGr⟩
    · unfold m_X3_act; rw [if_pos rfl, x3_letOut]; rfl
    · unfold m_X5_act; rw [if_pos rfl, x5_cry]; rfl
    · rw [upd_ne (by omega), amap_in (Nat.zero_le _) hi, amap_in (Nat.zero_le _) hi, hf i hi, h12]
    · rw [upd_at]
    · rw [upd_ne (by decide), amap_out (by decide)]; exact h13
    · rw [upd_ne (by decide), amap_out (by decide)]; exact h14
  · -- a night
    obtain ⟨M, hM, rfl⟩ := le_lit (n := 12) (by decide) hGm
    refine ⟨he, ro, amap 0 12 (fun j x => x + bitI (chs fi M) j) fi, amap 0 12 (fun j x => x + bitI (chs nw M) j) nw, ?_, ?_, ⟨fun i hi => ?_, ?_, ?_, ?_⟩, Gf_amap (fun i hi => ?_), hGh, hGm, hGr⟩
    · unfold m_X3_act; rw [if_neg (by decide), if_neg (by decide), if_neg (by decide), x3_mend M hM]; rfl
    · unfold m_X5_act; rw [if_neg (by decide), if_neg (by decide), if_neg (by decide), x5_mend M hM nw h13]; rfl
    · rw [amap_in (Nat.zero_le _) hi, amap_in (Nat.zero_le _) hi, hf i hi, chs_c hf]
    · rw [amap_out (by decide)]; exact h12
    · rw [amap_out (by decide)]; exact h13
    · rw [amap_out (by decide)]; exact h14
    · rcases bitI_or (chs fi M) (show i < 32 by omega) with h | h
      · rw [h, Int32.add_zero]; exact hGf i hi
      · have h2 := (chs_ok fi M i hi h).2
        rw [h]
        exact ro_step (hGf i hi) (Int32.not_le.mp h2)
