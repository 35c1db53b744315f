/-! the coupling of class and reference -/
def fitk (st : Ar) (t : Nat) : Nat → Bool
  | 0 => true
  | i + 1 => fitk st t i && decide (m_X4_echo (st (2 * i)) (nI t) = st (2 * i + 1))
/-- a set gathered by a test -/
def gor (P : Nat → Bool) (c : Nat) : Int32 := gat (fun t a => if P t = true then a ||| oneB t else a) c 0 0
def tsF (k : Nat) (st : Ar) : Int32 := gor (fun t => fitk st t k) 10
theorem bt_gor (P : Nat → Bool) (c : Nat) (hc : c ≤ 32) : ∀ i, bt (gor P c) i = (decide (i < c) && P i) := by
  refine (Nat.zero_add c ▸ gat_inv (fun j (s : Int32) => j ≤ 32 → ∀ i, bt s i = (decide (i < j) && P i)) c 0 0 (fun _ i => ?_) (fun j s _ hj hI h12 i => ?_)) hc
  · rw [b_0, decide_eq_false (by omega), Bool.false_and]
  · have hI := hI (by omega)
    by_cases h32 : i < 32
    · by_cases hf : P j = true
      · rw [if_pos hf, b_or, hI i, bt_one (by omega) h32]
        by_cases e : i = j
        · subst e
          rw [decide_eq_true rfl, hf, decide_eq_true (show i < i + 1 by omega), Bool.or_true]; rfl
        · rw [decide_eq_false e, Bool.or_false]
          by_cases hl : i < j
          · rw [decide_eq_true hl, decide_eq_true (show i < j + 1 by omega)]
          · rw [decide_eq_false hl, decide_eq_false (show ¬ i < j + 1 by omega)]
      · rw [if_neg hf, hI i]
        by_cases e : i = j
        · subst e
          rw [Bool.eq_false_iff.mpr hf, Bool.and_false, Bool.and_false]
        · by_cases hl : i < j
          · rw [decide_eq_true hl, decide_eq_true (show i < j + 1 by omega)]
          · rw [decide_eq_false hl, decide_eq_false (show ¬ i < j + 1 by omega)]
    · rw [b_big (by omega), decide_eq_false (by omega), Bool.false_and]
theorem small_gor (P : Nat → Bool) (c : Nat) (hc : c ≤ 32) : smallB c (gor P c) := fun i hi => by
  rw [bt_gor P c hc, decide_eq_false (by omega), Bool.false_and]
def Rwall (fi to : Ar) (th he ma ro : Int32) (bk mto : Ar) (mth : Int32) : Prop := Wn fi he ma ro bk ∧ Gw fi he ma ro ∧ (∀ i, i < 12 → mto i = to i) ∧ Gt to ∧ mth = th ∧ smallB 12 th
def Rmen (ne mne : Ar) : Prop := (∀ i, i < 8 → mne i = ne i) ∧ ∀ i, i < 8 → 0 ≤ ne i ∧ ne i ≤ 8
def Rsight (si ft msi : Int32) (mst : Ar) : Prop := ∃ k : Nat, k ≤ 8 ∧ si = nI k ∧ msi = nI k ∧ ft = tsF k mst
def CR (ct : Int32) (sg : Ar) (si ft th he ma ro : Int32) (fi to ne : Ar) (zth zsi zsn : Int32) (zbk zto zne zst zpd : Ar) : Prop :=
  Rpad ct sg zsn zpd ∧ Rwall fi to th he ma ro zbk zto zth ∧ Rmen ne zne ∧ Rsight si ft zsi zst
theorem iso_if_p {α : Type} {v a b : Int32} {x y : α} (h : a ≤ v ∧ v ≤ b) : (if m_X4_isOutside v a b = 0 then x else y) = x := if_pos (iso_p h)
theorem iso_if_n {α : Type} {v a b : Int32} {x y : α} (h : ¬ (a ≤ v ∧ v ≤ b)) : (if m_X4_isOutside v a b = 0 then x else y) = y := if_neg (fun q => h ((iso0 _ _ _).mp q))
theorem in_if_p {α : Type} {v a b : Int32} {x y : α} (h : a ≤ v ∧ v ≤ b) : (if m_X5_in v a b = 0 then x else y) = y := if_neg (by rw [in_p h]; decide)
theorem in_if_n {α : Type} {v a b : Int32} {x y : α} (h : ¬ (a ≤ v ∧ v ≤ b)) : (if m_X5_in v a b = 0 then x else y) = x := if_pos (in_n h)
theorem part_p {α : Type} {v : Int32} {x : α} {R : Type} (h : 0 ≤ v ∧ v ≤ 11) (k : Int32 → Option R) : ob1 (m_X5_isPart v) k = k 1 := by rw [isPart_eq, in_p h]; rfl
theorem part_n {v : Int32} {R : Type} (h : ¬ (0 ≤ v ∧ v ≤ 11)) (k : Int32 → Option R) : ob1 (m_X5_isPart v) k = k 0 := by rw [isPart_eq, in_n h]; rfl
theorem Wn_upd {fi bk : Ar} {he ma ro : Int32} (h : Wn fi he ma ro bk) {j : Nat} (hj : j < 12) (v : Int32) : Wn (upd fi j v) he ma ro (upd bk j v) := by
  obtain ⟨h1, h2, h3, h4⟩ := h
  refine ⟨fun i hi => ?_, by rw [upd_ne (by omega)]; exact h2, by rw [upd_ne (by omega)]; exact h3, by rw [upd_ne (by omega)]; exact h4⟩
  by_cases e : i = j
  · subst e; rw [upd_at, upd_at]
  · rw [upd_ne e, upd_ne e]; exact h1 i hi
theorem all_upd {P : Int32 → Prop} {f : Ar} {n j : Nat} {v : Int32} (h : ∀ i, i < n → P (f i)) (hv : P v) : ∀ i, i < n → P (upd f j v i) := fun i hi => by
  by_cases e : i = j
  · subst e; rw [upd_at]; exact hv
  · rw [upd_ne e]; exact h i hi
theorem eq_upd {f g : Ar} {n j : Nat} {v : Int32} (h : ∀ i, i < n → f i = g i) : ∀ i, i < n → upd f j v i = upd g j v i := fun i hi => by
  by_cases e : i = j
  · subst e; rw [upd_at, upd_at]
  · rw [upd_ne e, upd_ne e]; exact h i hi
theorem pc_small {x : Int32} (h : smallB 12 x) : m_J6_bitCount_0f7a4 x = bitsF x := by
  obtain ⟨n, hn, rfl⟩ := nI_small (by decide) h
  exact pc_eq hn
theorem fitk_upd (st : Ar) (t : Nat) (a b : Int32) (k : Nat) : ∀ i, i ≤ k → fitk (upd (upd st (2 * k) a) (2 * k + 1) b) t i = fitk st t i
  | 0, _ => rfl
  | i + 1, h => by
    unfold fitk
    rw [fitk_upd st t a b k i (by omega), upd_ne (by omega), upd_ne (by omega), upd_ne (by omega), upd_ne (by omega)]
theorem x4_ta (a b : Int32) : m_X4_tonesAnswering a b = some (gor (fun t => decide (m_X4_echo a (nI t) = b)) 10) := by
  refine lp_gat (fun n s v => L_X4_tonesAnswering_4 a b n s v) (fun s => some s) 10 _ (fun _ _ => True) (fun n s _ => rfl) (fun n i s hi _ => ⟨?_, trivial⟩) 10 0 fu 0 rfl (by decide) trivial
  show b_X4_tonesAnswering_4 (L_X4_tonesAnswering_4 a b n) a b s (nI i) = _
  unfold b_X4_tonesAnswering_4
  rw [if_neg (show ¬ (10 : Int32) ≤ nI i from nle_nI (k := 10) (by decide) hi), nI_1]
  by_cases h : m_X4_echo a (nI i) = b
  · rw [if_pos h, if_pos (decide_eq_true h)]; rfl
  · rw [if_neg h, if_neg (by rw [decide_eq_true_eq]; exact h)]
theorem seen_ts (st : Ar) (k : Nat) (a b : Int32) : tsF (k + 1) (upd (upd st (2 * k) a) (2 * k + 1) b) = tsF k st &&& gor (fun t => decide (m_X4_echo a (nI t) = b)) 10 := by
  apply b_ext
  intro i hi
  unfold tsF
  rw [b_and, bt_gor _ 10 (by decide), bt_gor _ 10 (by decide), bt_gor _ 10 (by decide)]
  show (decide (i < 10) && (fitk _ i k && decide (m_X4_echo (upd (upd st (2 * k) a) (2 * k + 1) b (2 * k)) (nI i) = upd (upd st (2 * k) a) (2 * k + 1) b (2 * k + 1)))) = _
  rw [fitk_upd st i a b k k (Nat.le_refl _), upd_ne (show 2 * k ≠ 2 * k + 1 by omega), upd_at, upd_at]
  cases decide (i < 10) <;> cases fitk st i k <;> cases decide (m_X4_echo a (nI i) = b) <;> rfl
theorem x5_toneSet {k : Nat} (hk : k ≤ 8) (st : Ar) : m_X5_toneSet (nI k) st = some (tsF k st) := by
  have h15 : ∀ (K : Int32 → Int32 → Option Int32) (v1 : Int32) (t : Nat), t < 10 → L_X5_toneSet_15 K v1 (nI t) (nI k) st fu 1 0 = K (if fitk st t k = true then v1 ||| oneB t else v1) (nI (t + 1)) := by
    intro K v1 t ht
    have h := lp_gat (fun n s v => L_X5_toneSet_15 K v1 (nI t) (nI k) st n s v) (fun s => K (if s = 0 then v1 else v1 ||| oneB t) (nI (t + 1))) k (fun i s => if s = 0 then 0 else if m_X4_echo (st (2 * i)) (nI t) = st (2 * i + 1) then 1 else 0) (fun _ _ => True) (fun n s _ => ?_) (fun n i s hi _ => ⟨?_, trivial⟩) k 0 fu 1 (by omega) (by show k < 5000; omega) trivial
    · refine Eq.trans h ?_
      have hg : ∀ c i : Nat, ∀ s : Int32, (s = if fitk st t i = true then (1 : Int32) else 0) → gat (fun i s => if s = 0 then (0 : Int32) else if m_X4_echo (st (2 * i)) (nI t) = st (2 * i + 1) then 1 else 0) c i s = if fitk st t (i + c) = true then (1 : Int32) else 0 := by
        intro c i s hs
        refine gat_inv (fun j (s : Int32) => s = if fitk st t j = true then (1 : Int32) else 0) c i s hs (fun j s _ _ hI => ?_)
        subst hI
        show _ = if (fitk st t j && decide (m_X4_echo (st (2 * j)) (nI t) = st (2 * j + 1))) = true then (1 : Int32) else 0
        cases fitk st t j
        · rfl
        · rw [if_pos rfl, if_neg (by decide), Bool.true_and]
          by_cases q : m_X4_echo (st (2 * j)) (nI t) = st (2 * j + 1)
          · rw [if_pos q, if_pos (decide_eq_true q)]
          · rw [if_neg q, if_neg (by rw [decide_eq_true_eq]; exact q)]
      rw [hg k 0 1 rfl, Nat.zero_add]
      cases fitk st t k <;> rfl
    · show b_X5_toneSet_15 K (L_X5_toneSet_15 K v1 (nI t) (nI k) st n) v1 (nI t) (nI k) st s (nI k) = _
      unfold b_X5_toneSet_15
      rw [if_pos (Int32.le_refl _), nI_1, Int32.or_zero]
      by_cases h0 : s = 0
      · rw [if_pos h0, if_pos h0]
      · rw [if_neg h0, if_neg h0]; rfl
    · show b_X5_toneSet_15 K (L_X5_toneSet_15 K v1 (nI t) (nI k) st n) v1 (nI t) (nI k) st s (nI i) = _
      unfold b_X5_toneSet_15
      have e1 : (2 : Int32) * nI i = nI (2 * i) := pk_mul 2 i
      rw [if_neg (nle_nI (by omega) hi), nI_1, e1, nI_1, inb_nI (show 2 * i < 16 by omega) (by decide), inb_nI (show 2 * i + 1 < 16 by omega) (by decide), gd_t, gd_t, nI_clamp (by omega), nI_clamp (by omega), shakes_echo]
      by_cases h0 : s = 0
      · rw [if_pos h0, if_pos h0]
      · rw [if_neg h0, if_neg h0]
        by_cases q : m_X4_echo (st (2 * i)) (nI t) = st (2 * i + 1)
        · rw [if_pos q, if_pos q]
        · rw [if_neg q, if_neg q]
  refine lp_gat (fun n s v => L_X5_toneSet_4 (nI k) st n s v) (fun s => some s) 10 (fun t a => if fitk st t k = true then a ||| oneB t else a) (fun _ _ => True) (fun n s _ => rfl) (fun n i s hi _ => ⟨?_, trivial⟩) 10 0 fu 0 rfl (by decide) trivial
  show b_X5_toneSet_4 (L_X5_toneSet_4 (nI k) st n) (nI k) st s (nI i) = _
  unfold b_X5_toneSet_4
  rw [if_neg (show ¬ (10 : Int32) ≤ nI i from nle_nI (k := 10) (by decide) hi), h15 _ _ _ hi]
theorem b_1023 : ∀ i, i < 32 → bt 1023 i = decide (i < 10) := by decide +kernel
theorem ts_0 (st : Ar) : tsF 0 st = 1023 := by
  apply b_ext
  intro i hi
  unfold tsF
  rw [bt_gor _ 10 (by decide), b_1023 i hi]
  exact Bool.and_true _
