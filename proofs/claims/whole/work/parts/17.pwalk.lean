/-! the pad, the fault, the rounds walked: class and reference side by side -/
theorem isAct_sign {s : Int32} (h : ¬ m_X0_isAct s = 0) : isSign s := by
  unfold m_X0_isAct at h
  by_cases h1 : s = 46
  · exact Or.inl h1
  rw [if_neg h1] at h
  by_cases h2 : s = 104
  · exact Or.inr (Or.inl h2)
  rw [if_neg h2] at h
  by_cases h3 : s = 33
  · exact Or.inr (Or.inr (Or.inl h3))
  rw [if_neg h3] at h
  by_cases h4 : s = 110
  · exact Or.inr (Or.inr (Or.inr h4))
  rw [if_neg h4] at h
  exact absurd rfl h
theorem fault_step {k i : Nat} (hk : k ≤ 60) (hi : i < k) (K : Int32 → Int32 → Option Int32) (sg : Ar) (v1 : Int32) :
    b_X0_faultPlace_4 K (nI k) sg v1 (nI i) = if v1 = 0 then (if m_X0_isAct (sg i) = 0 then some (nI i) else if sg i = 104 then K 1 (nI (i + 1)) else K 0 (nI (i + 1))) else (if m_X4_isOutside (sg i) 48 57 = 0 then K 0 (nI (i + 1)) else some (nI i)) := by
  unfold b_X0_faultPlace_4 j_X0_faultPlace_52
  rw [if_neg (nle_nI (by omega) hi), if_neg (show ¬ (60 : Int32) ≤ nI i from nle_nI (k := 60) (by decide) (by omega)), inb_nI (show i < 60 by omega) (by decide), gd_t, nI_clamp (by omega), nI_1]
  by_cases h : v1 = 0
  · rw [if_pos h, if_pos h, if_pos h]
  · rw [if_neg h, if_neg h, if_neg h]
theorem fault_end {k : Nat} (hk : k ≤ 60) (K : Int32 → Int32 → Option Int32) (sg : Ar) (v1 : Int32) : b_X0_faultPlace_4 K (nI k) sg v1 (nI k) = if v1 = 0 then some (-6) else some (nI k) := by
  unfold b_X0_faultPlace_4 j_X0_faultPlace_74
  rw [if_pos (Int32.le_refl _)]
theorem fault_stepM {k i : Nat} (hk : k ≤ 60) (hi : i < k) (K : Int32 → Int32 → Option Int32) (pd : Ar) (v1 : Int32) :
    b_X5_faultOf_4 K (nI k) pd v1 (nI i) = if v1 = 0 then (if m_X0_isAct (pd i) = 0 then some (nI i) else if pd i = 104 then K 1 (nI (i + 1)) else K 0 (nI (i + 1))) else (if m_X4_isOutside (pd i) 48 57 = 0 then K 0 (nI (i + 1)) else some (nI i)) := by
  unfold b_X5_faultOf_4 j_X5_faultOf_63 m_X0_isAct
  rw [if_neg (nle_nI (by omega) hi), inb_nI (show i < 60 by omega) (by decide), gd_t, nI_clamp (by omega), nI_1]
  by_cases h : v1 = 0
  · rw [if_pos h, if_pos h, if_pos h]
    generalize pd i = z
    by_cases h1 : z = 46
    · subst h1; rfl
    by_cases h2 : z = 104
    · subst h2; rfl
    by_cases h3 : z = 33
    · subst h3; rfl
    by_cases h4 : z = 110
    · subst h4; rfl
    simp only [h1, h2, h3, h4, if_false, if_true]
  · rw [if_neg h, if_neg h, if_neg h]
    by_cases h1 : (48 : Int32) ≤ pd i ∧ pd i ≤ 57
    · rw [in_p h1, iso_p h1, if_pos rfl, if_neg (by decide)]
    · rw [in_n h1, if_pos rfl, if_neg (fun q => h1 ((iso0 _ _ _).mp q))]
theorem fault_endM {k : Nat} (hk : k ≤ 60) (K : Int32 → Int32 → Option Int32) (pd : Ar) (v1 : Int32) : b_X5_faultOf_4 K (nI k) pd v1 (nI k) = if v1 = 0 then some (-6) else some (nI k) := by
  unfold b_X5_faultOf_4
  rw [if_pos (Int32.le_refl _)]
theorem fault_same {k : Nat} (hk : k ≤ 60) {sg pd : Ar} (h : ∀ i, i < k → sg i = pd i) : ∀ (n i : Nat) (v1 : Int32), i ≤ k → L_X5_faultOf_4 (nI k) pd n v1 (nI i) = L_X0_faultPlace_4 (nI k) sg n v1 (nI i) := by
  intro n
  induction n with
  | zero => intro i v1 _; rfl
  | succ n ih =>
    intro i v1 hi
    show b_X5_faultOf_4 (L_X5_faultOf_4 (nI k) pd n) (nI k) pd v1 (nI i) = b_X0_faultPlace_4 (L_X0_faultPlace_4 (nI k) sg n) (nI k) sg v1 (nI i)
    rcases Nat.lt_or_ge i k with h2 | h2
    · rw [fault_step hk h2, fault_stepM hk h2, ih (i + 1) 1 h2, ih (i + 1) 0 h2, h i h2]
    · have e : i = k := by omega
      subst e
      rw [fault_end hk, fault_endM hk]
theorem fault_some {k : Nat} (hk : k ≤ 60) (sg : Ar) : ∀ (c i n : Nat) (v1 : Int32), i + c = k → c < n → ∃ r, L_X0_faultPlace_4 (nI k) sg n v1 (nI i) = some r ∧ (r = -6 ∨ ∃ j, j ≤ k ∧ r = nI j) := by
  intro c
  induction c with
  | zero =>
    intro i n v1 h hn
    obtain ⟨n, rfl⟩ : ∃ q, n = q + 1 := ⟨n - 1, by omega⟩
    have e : i = k := by omega
    subst e
    show ∃ r, b_X0_faultPlace_4 (L_X0_faultPlace_4 (nI i) sg n) (nI i) sg v1 (nI i) = some r ∧ _
    rw [fault_end hk]
    by_cases hv : v1 = 0
    · rw [if_pos hv]; exact ⟨_, rfl, Or.inl rfl⟩
    · rw [if_neg hv]; exact ⟨_, rfl, Or.inr ⟨i, Nat.le_refl _, rfl⟩⟩
  | succ c ih =>
    intro i n v1 h hn
    obtain ⟨n, rfl⟩ : ∃ q, n = q + 1 := ⟨n - 1, by omega⟩
    show ∃ r, b_X0_faultPlace_4 (L_X0_faultPlace_4 (nI k) sg n) (nI k) sg v1 (nI i) = some r ∧ _
    rw [fault_step hk (by omega)]
    have hh : ∃ r, some (nI i) = some r ∧ (r = -6 ∨ ∃ j, j ≤ k ∧ r = nI j) := ⟨_, rfl, Or.inr ⟨i, by omega, rfl⟩⟩
    have h0 := ih (i + 1) n 0 (by omega) (by omega)
    have h1 := ih (i + 1) n 1 (by omega) (by omega)
    split
    · split
      · exact hh
      · split
        · exact h1
        · exact h0
    · split
      · exact h0
      · exact hh
def Rpad (ct : Int32) (sg : Ar) (sn : Int32) (pd : Ar) : Prop := ∃ k : Nat, k ≤ 60 ∧ ct = nI k ∧ sn = nI k ∧ ∀ i, i < k → sg i = pd i
theorem fault_both {ct sn : Int32} {sg pd : Ar} (h : Rpad ct sg sn pd) : ∃ r, m_X0_faultPlace ct sg = some r ∧ m_X5_faultOf sn pd = some r ∧ (r = -6 ∨ 0 ≤ r) := by
  obtain ⟨k, hk, rfl, rfl, hp⟩ := h
  obtain ⟨r, h1, h2⟩ := fault_some hk sg k 0 fu 0 (by omega) (by show k < 5000; omega)
  refine ⟨r, h1, ?_, ?_⟩
  · have := fault_same hk hp fu 0 0 (by omega)
    exact this.trans h1
  · rcases h2 with h2 | ⟨j, hj, h2⟩
    · exact Or.inl h2
    · exact Or.inr (by rw [h2]; exact nI_pos' (by omega))
theorem nIm6 {j : Nat} (h : j < 2 ^ 31) : ¬ nI j = -6 := fun q => by
  have := nI_pos' h
  rw [q] at this
  exact absurd this (by decide)
theorem fault_next {k i : Nat} (hk : k ≤ 60) (hi : i < k) {sg : Ar} {N : Nat} (h : L_X0_faultPlace_4 (nI k) sg N 0 (nI i) = some (-6)) :
    isSign (sg i) ∧ (sg i = 104 → i + 1 < k ∧ (48 ≤ sg (i + 1) ∧ sg (i + 1) ≤ 57)) ∧ ∃ N', L_X0_faultPlace_4 (nI k) sg N' 0 (nI (if sg i = 104 then i + 2 else i + 1)) = some (-6) := by
  cases N with
  | zero => cases h
  | succ N =>
    have h : b_X0_faultPlace_4 (L_X0_faultPlace_4 (nI k) sg N) (nI k) sg 0 (nI i) = some (-6) := h
    rw [fault_step hk hi, if_pos rfl] at h
    by_cases ha : m_X0_isAct (sg i) = 0
    · rw [if_pos ha] at h
      exact absurd (Option.some.inj h) (nIm6 (by omega))
    rw [if_neg ha] at h
    refine ⟨isAct_sign ha, ?_⟩
    by_cases h4 : sg i = 104
    · rw [if_pos h4] at h
      rw [if_pos h4]
      cases N with
      | zero => cases h
      | succ N =>
        have h : b_X0_faultPlace_4 (L_X0_faultPlace_4 (nI k) sg N) (nI k) sg 1 (nI (i + 1)) = some (-6) := h
        rcases Nat.lt_or_ge (i + 1) k with h2 | h2
        · rw [fault_step hk h2, if_neg (by decide)] at h
          by_cases ho : m_X4_isOutside (sg (i + 1)) 48 57 = 0
          · rw [if_pos ho] at h
            exact ⟨fun _ => ⟨h2, (iso0 _ _ _).mp ho⟩, N, h⟩
          · rw [if_neg ho] at h
            exact absurd (Option.some.inj h) (nIm6 (by omega))
        · have e : i + 1 = k := by omega
          rw [e, fault_end hk, if_neg (by decide)] at h
          exact absurd (Option.some.inj h) (nIm6 (by omega))
    · rw [if_neg h4] at h
      rw [if_neg h4]
      exact ⟨fun q => absurd q h4, N, h⟩
/-! the least part of a set -/
def lob (x : Int32) : Nat → Nat → Option Nat
  | 0, _ => none
  | c + 1, i => if bitI x i = 1 then some i else lob x c (i + 1)
theorem lob_rg (x : Int32) : ∀ (c i q : Nat), lob x c i = some q → i ≤ q ∧ q < i + c ∧ bitI x q = 1 ∧ ∀ j, i ≤ j → j < q → ¬ bitI x j = 1
  | 0, _, _, h => by cases h
  | c + 1, i, q, h => by
    unfold lob at h
    by_cases hb : bitI x i = 1
    · rw [if_pos hb] at h
      cases h
      exact ⟨Nat.le_refl _, by omega, hb, fun j h1 h2 => by omega⟩
    · rw [if_neg hb] at h
      obtain ⟨h1, h2, h3, h4⟩ := lob_rg x c (i + 1) q h
      refine ⟨by omega, by omega, h3, fun j h5 h6 => ?_⟩
      by_cases e : j = i
      · rw [e]; exact hb
      · exact h4 j (by omega) h6
theorem lob_none (x : Int32) : ∀ (c i : Nat), lob x c i = none → ∀ j, i ≤ j → j < i + c → ¬ bitI x j = 1
  | 0, _, _ => fun j h1 h2 => by omega
  | c + 1, i, h => by
    unfold lob at h
    by_cases hb : bitI x i = 1
    · rw [if_pos hb] at h; cases h
    · rw [if_neg hb] at h
      intro j h1 h2
      by_cases e : j = i
      · rw [e]; exact hb
      · exact lob_none x c (i + 1) h j (by omega) (by omega)
theorem lob_zero {x : Int32} (hs : smallB 12 x) (h : lob x 12 0 = none) : x = 0 := by
  apply b_ext
  intro i hi
  rw [b_0]
  rcases Nat.lt_or_ge i 12 with h2 | h2
  · have := lob_none x 12 0 h i (by omega) (by omega)
    rw [bitI_1 _ (by omega)] at this
    exact Bool.eq_false_iff.mpr this
  · exact hs i h2
theorem leastOf_eq {x : Int32} {q : Nat} (h : lob x 12 0 = some q) : m_X2_leastOf x = some (nI q) := by
  obtain ⟨-, hq, hb, hl⟩ := lob_rg x 12 0 q h
  have key : ∀ (c i n : Nat), i + c = q → c < n → L_X2_leastOf_2 x n (nI i) = some (nI q) := by
    intro c
    induction c with
    | zero =>
      intro i n h1 hn
      obtain ⟨n, rfl⟩ : ∃ w, n = w + 1 := ⟨n - 1, by omega⟩
      have e : i = q := by omega
      subst e
      show b_X2_leastOf_2 (L_X2_leastOf_2 x n) x (nI i) = _
      unfold b_X2_leastOf_2
      by_cases h11 : (11 : Int32) ≤ nI i
      · rw [if_pos h11]
      · rw [if_neg h11]
        exact if_neg (show ¬ bitI x i = 0 from by rw [hb]; decide)
    | succ c ih =>
      intro i n h1 hn
      obtain ⟨n, rfl⟩ : ∃ w, n = w + 1 := ⟨n - 1, by omega⟩
      show b_X2_leastOf_2 (L_X2_leastOf_2 x n) x (nI i) = _
      unfold b_X2_leastOf_2
      have h0 : bitI x i = 0 := (bitI_or x (show i < 32 by omega)).resolve_right (hl i (by omega) (by omega))
      rw [if_neg (show ¬ (11 : Int32) ≤ nI i from nle_nI (k := 11) (by decide) (by omega)), nI_1]
      exact (if_pos h0).trans (ih (i + 1) n (by omega) (by omega))
  exact key q 0 fu (by omega) (by show q < 5000; omega)
theorem bt_dbF (f : Ar) : ∀ i, bt (dbF f) i = (decide (i < 12) && decide (f i = 0)) := by
  refine gat_inv (fun j (s : Int32) => j ≤ 12 → ∀ i, bt s i = (decide (i < j) && decide (f i = 0))) 12 0 0 (fun _ i => ?_) (fun j s _ hj hI h12 i => ?_) (Nat.le_refl _)
  · rw [b_0, decide_eq_false (by omega), Bool.false_and]
  · have hI := hI (by omega)
    by_cases h32 : i < 32
    · by_cases hf : f j = 0
      · rw [if_pos hf, b_or, hI i]
        show (_ || bt (oneB j) i) = _
        rw [bt_one (by omega) h32]
        by_cases e : i = j
        · subst e
          rw [decide_eq_true rfl, decide_eq_true hf, decide_eq_true (show i < i + 1 by omega), Bool.or_true]; rfl
        · rw [decide_eq_false e, Bool.or_false]
          by_cases hl : i < j
          · rw [decide_eq_true hl, decide_eq_true (show i < j + 1 by omega)]
          · rw [decide_eq_false hl, decide_eq_false (show ¬ i < j + 1 by omega)]
      · rw [if_neg hf, hI i]
        by_cases e : i = j
        · subst e
          rw [decide_eq_false hf, Bool.and_false, Bool.and_false]
        · by_cases hl : i < j
          · rw [decide_eq_true hl, decide_eq_true (show i < j + 1 by omega)]
          · rw [decide_eq_false hl, decide_eq_false (show ¬ i < j + 1 by omega)]
    · rw [b_big (by omega), decide_eq_false (by omega), Bool.false_and]
theorem small_dbF (f : Ar) : smallB 12 (dbF f) := fun i hi => by
  rw [bt_dbF, decide_eq_false (by omega), Bool.false_and]
theorem small_and {m : Nat} {x : Int32} (h : smallB m x) (y : Int32) : smallB m (x &&& y) := fun i hi => by
  rw [b_and, h i hi, Bool.false_and]
