/-! watchers -/
theorem b_4095 : ∀ i, i < 32 → bt 4095 i = decide (i < 12) := by decide +kernel
theorem bt_turned {w : Int32} (hw : smallB 12 w) {s : Nat} (hs : 1 ≤ s) (hs2 : s ≤ 11) (i : Nat) : bt (m_X4_turned w (nI s)) i = (decide (i < 12) && bt w ((i + 12 - s) % 12)) := by
  by_cases h32 : i < 32
  · unfold m_X4_turned
    rw [show (12 : Int32) - nI s = nI (12 - s) from pk_sub (a := 12) (by omega), b_and, b_or, b_4095 i h32, b_shl s (by omega) w h32, b_sshr (12 - s) (by omega) w h32]
    by_cases h : i < 12
    · rw [decide_eq_true h, Bool.and_true, Bool.true_and]
      rw [if_pos (by omega)]
      by_cases h2 : s ≤ i
      · rw [decide_eq_true h2, Bool.true_and, hw (12 - s + i) (by omega), Bool.or_false]
        congr 1
        omega
      · rw [decide_eq_false h2, Bool.false_and, Bool.false_or]
        congr 1
        omega
    · rw [decide_eq_false h, Bool.and_false, Bool.false_and]
  · rw [b_big (by omega), decide_eq_false (by omega), Bool.false_and]
def psF (r : Nat) (w : Int32) : Int32 := gat (fun s a => a ||| (m_X4_turned w (nI s) ||| m_X4_turned w (nI (12 - s)))) r 1 w
theorem x4_ps {r : Nat} (hr : r ≤ 3) (w : Int32) : m_X4_partsSeen w (nI r) = some (psF r w) := by
  refine lp_gat (fun n s v => L_X4_partsSeen_4 w (nI r) n s v) (fun s => some s) (r + 1) (fun s a => a ||| (m_X4_turned w (nI s) ||| m_X4_turned w (nI (12 - s)))) (fun i _ => 1 ≤ i) (fun n s _ => ?_) (fun n i s hi h1 => ⟨?_, by omega⟩) r 1 fu w (by omega) (by show r < 5000; omega) (Nat.le_refl 1)
  · show b_X4_partsSeen_4 (L_X4_partsSeen_4 w (nI r) n) w (nI r) s (nI (r + 1)) = _
    unfold b_X4_partsSeen_4
    rw [if_pos (nI_lt (by omega) (by omega))]
  · show b_X4_partsSeen_4 (L_X4_partsSeen_4 w (nI r) n) w (nI r) s (nI i) = _
    unfold b_X4_partsSeen_4
    rw [if_neg (nI_nlt (by omega) (by omega)), bnd_eq, nI_1, show (12 : Int32) - nI i = nI (12 - i) from pk_sub (a := 12) (by omega)]
/-- who stands on p sees j -/
def cov (r p j : Nat) : Prop := (j + 12 - p) % 12 ≤ r ∨ (p + 12 - j) % 12 ≤ r
theorem bt_ps {r : Nat} (hr : r ≤ 3) {w : Int32} (hw : smallB 12 w) (j : Nat) : bt (psF r w) j = true ↔ j < 12 ∧ ∃ p, p < 12 ∧ bt w p = true ∧ cov r p j := by
  have h := gat_inv (f := fun s (a : Int32) => a ||| (m_X4_turned w (nI s) ||| m_X4_turned w (nI (12 - s)))) (fun i (a : Int32) => 1 ≤ i ∧ ∀ j, bt a j = true ↔ j < 12 ∧ ∃ p, p < 12 ∧ bt w p = true ∧ cov (i - 1) p j) r 1 w ⟨Nat.le_refl 1, fun j => ?_⟩ (fun i a h1 h2 hI => ⟨by omega, fun j => ?_⟩)
  · have := h.2 j
    rw [show 1 + r - 1 = r by omega] at this
    exact this
  · constructor
    · intro hb
      have hj : j < 12 := by
        apply Nat.lt_of_not_le
        intro q
        rw [hw j q] at hb
        cases hb
      exact ⟨hj, j, hj, hb, Or.inl (by rw [show j + 12 - j = 12 by omega]; decide)⟩
    · rintro ⟨hj, p, hp, hb, hc⟩
      have e : p = j := by
        unfold cov at hc
        omega
      rw [← e]
      exact hb
  · rw [b_or, b_or, bt_turned hw (by omega) (by omega), bt_turned hw (by omega) (by omega), Bool.or_eq_true, Bool.or_eq_true, Bool.and_eq_true, Bool.and_eq_true, decide_eq_true_eq, hI.2 j]
    constructor
    · rintro (⟨hj, p, hp, hb, hc⟩ | ⟨hj, hb⟩ | ⟨hj, hb⟩)
      · exact ⟨hj, p, hp, hb, by unfold cov at hc ⊢; omega⟩
      · exact ⟨hj, _, Nat.mod_lt _ (by decide), hb, by unfold cov; omega⟩
      · exact ⟨hj, _, Nat.mod_lt _ (by decide), hb, by unfold cov; omega⟩
    · rintro ⟨hj, p, hp, hb, hc⟩
      by_cases h3 : cov (i - 1) p j
      · exact Or.inl ⟨hj, p, hp, hb, h3⟩
      · refine Or.inr ?_
        unfold cov at hc h3
        rcases hc with hc | hc
        · left
          refine ⟨hj, ?_⟩
          rw [show (j + 12 - i) % 12 = p by omega]
          exact hb
        · right
          refine ⟨hj, ?_⟩
          rw [show (j + 12 - (12 - i)) % 12 = p by omega]
          exact hb
def strF (f g : Nat) : Int32 := gat (fun i a => a ||| oneB ((f + i) % 12)) g 0 0
theorem x5_str {f g : Nat} (hf : f < 100) (hg : g ≤ 12) : m_X5_stretch (nI f) (nI g) = some (strF f g) := by
  refine lp_gat (fun n s v => L_X5_stretch_4 (nI f) (nI g) n s v) (fun s => some s) g (fun i a => a ||| oneB ((f + i) % 12)) (fun _ _ => True) (fun n s _ => ?_) (fun n i s hi _ => ⟨?_, trivial⟩) g 0 fu 0 (by omega) (by show g < 5000; omega) trivial
  · show b_X5_stretch_4 (L_X5_stretch_4 (nI f) (nI g) n) (nI f) (nI g) s (nI g) = _
    unfold b_X5_stretch_4
    rw [if_pos (Int32.le_refl _)]
  · show b_X5_stretch_4 (L_X5_stretch_4 (nI f) (nI g) n) (nI f) (nI g) s (nI i) = _
    unfold b_X5_stretch_4
    rw [if_neg (nle_nI (by omega) hi), rem12 f i (by omega), nI_1]
    rfl
theorem bt_str (f g j : Nat) : bt (strF f g) j = true ↔ ∃ i, i < g ∧ (f + i) % 12 = j := by
  have h := gat_inv (f := fun i (a : Int32) => a ||| oneB ((f + i) % 12)) (fun i (a : Int32) => ∀ j, bt a j = true ↔ ∃ q, q < i ∧ (f + q) % 12 = j) g 0 0 (fun j => ?_) (fun i a _ _ hI j => ?_)
  · have := h j
    rw [Nat.zero_add] at this
    exact this
  · rw [b_0]
    exact ⟨fun q => (by cases q), fun ⟨q, h, _⟩ => (by omega)⟩
  · rw [b_or, Bool.or_eq_true, hI j]
    have hm : (f + i) % 12 < 12 := Nat.mod_lt _ (by decide)
    constructor
    · rintro (⟨q, h1, h2⟩ | h)
      · exact ⟨q, by omega, h2⟩
      · by_cases h32 : j < 32
        · rw [bt_one (by omega) h32, decide_eq_true_eq] at h
          exact ⟨i, by omega, h.symm⟩
        · rw [b_big (by omega)] at h; cases h
    · rintro ⟨q, h1, h2⟩
      by_cases e : q = i
      · right
        subst e
        rw [← h2, bt_one (by omega) (by omega), decide_eq_true rfl]
      · exact Or.inl ⟨q, by omega, h2⟩
def snF (r : Nat) (w : Int32) : Int32 := gat (fun p a => if bitI w p = 1 then a ||| strF (p + 12 - r) (2 * r + 1) else a) 12 0 0
theorem bt_sn {r : Nat} (hr : r ≤ 3) (w : Int32) (j : Nat) : bt (snF r w) j = true ↔ j < 12 ∧ ∃ p, p < 12 ∧ bt w p = true ∧ cov r p j := by
  have h := gat_inv (f := fun p (a : Int32) => if bitI w p = 1 then a ||| strF (p + 12 - r) (2 * r + 1) else a) (fun i (a : Int32) => i ≤ 12 → ∀ j, bt a j = true ↔ j < 12 ∧ ∃ p, p < i ∧ bt w p = true ∧ cov r p j) 12 0 0 (fun _ j => ?_) (fun i a _ h2 hI h12 j => ?_)
  · exact h (by decide) j
  · rw [b_0]
    exact ⟨fun q => (by cases q), fun ⟨_, q, h, _⟩ => (by omega)⟩
  · have hI := hI (by omega)
    by_cases hb : bitI w i = 1
    · rw [if_pos hb, b_or, Bool.or_eq_true, hI j, bt_str]
      have hb2 := (bitI_1 w (show i < 32 by omega)).mp hb
      constructor
      · rintro (⟨hj, p, hp, h3, h4⟩ | ⟨q, h3, h4⟩)
        · exact ⟨hj, p, by omega, h3, h4⟩
        · exact ⟨by omega, i, by omega, hb2, by unfold cov; omega⟩
      · rintro ⟨hj, p, hp, h3, h4⟩
        by_cases e : p = i
        · subst e
          right
          unfold cov at h4
          rcases h4 with h4 | h4
          · exact ⟨r + (j + 12 - p) % 12, by omega, by omega⟩
          · exact ⟨r - (p + 12 - j) % 12, by omega, by omega⟩
        · exact Or.inl ⟨hj, p, by omega, h3, h4⟩
    · rw [if_neg hb, hI j]
      constructor
      · rintro ⟨hj, p, hp, h3, h4⟩
        exact ⟨hj, p, by omega, h3, h4⟩
      · rintro ⟨hj, p, hp, h3, h4⟩
        by_cases e : p = i
        · subst e
          exact absurd ((bitI_1 w (by omega)).mpr h3) hb
        · exact ⟨hj, p, by omega, h3, h4⟩
theorem ps_sn {r : Nat} (hr : r ≤ 3) {w : Int32} (hw : smallB 12 w) : psF r w = snF r w := by
  apply b_ext
  intro i _
  have h1 := bt_ps hr hw i
  have h2 := bt_sn hr w i
  cases ha : bt (psF r w) i <;> cases hb : bt (snF r w) i
  · rfl
  · rw [hb] at h2; rw [ha] at h1; exact absurd (h1.mpr (h2.mp rfl)) (by decide)
  · rw [hb] at h2; rw [ha] at h1; exact absurd (h2.mpr (h1.mp rfl)) (by decide)
  · rfl
/-- all twelve, or fewer than twelve -/
theorem bits12 {x : Int32} (hx : smallB 12 x) (h : 12 ≤ bitsF x) : x = 4095 := by
  have hh := gat_inv (f := fun k (a : Int32) => a + bitI x k) (fun i (a : Int32) => i ≤ 12 → ∃ c : Nat, c ≤ i ∧ a = nI c ∧ (c = i → ∀ j, j < i → bt x j = true)) 12 0 0 (fun _ => ⟨0, by decide, rfl, fun _ j hj => by omega⟩) (fun i a _ h2 hI h12 => by
    obtain ⟨c, hc, ea, hall⟩ := hI (by omega)
    show ∃ c : Nat, c ≤ i + 1 ∧ a + bitI x i = nI c ∧ _
    rcases bitI_or x (show i < 32 by omega) with h3 | h3
    · exact ⟨c, by omega, by rw [h3, Int32.add_zero]; exact ea, fun q => by omega⟩
    · refine ⟨c + 1, by omega, by rw [h3, ea, nI_1], fun q j hj => ?_⟩
      by_cases e : j = i
      · rw [e]; exact (bitI_1 x (by omega)).mp h3
      · exact hall (by omega) j (by omega))
  obtain ⟨c, hc, ec, hall⟩ := hh (by decide)
  have h12 : (12 : Int32) ≤ nI c := by rw [← ec]; exact h
  have : 12 ≤ c := (nI_leI (a := 12) (by decide) (by omega)).mp h12
  apply b_ext
  intro i hi
  rw [b_4095 i hi]
  by_cases h3 : i < 12
  · rw [hall (by omega) i (by omega), decide_eq_true h3]
  · rw [hx i (by omega), decide_eq_false h3]
/-- the fewest watchers found so far -/
def wtS (set : Int32) (r i : Nat) (v : Int32) : Int32 :=
  if v < 0 then (if set &&& (snF r (nI i) ^^^ (-1)) = 0 then nI i else v) else if bitsF v ≤ bitsF (nI i) then v else if set &&& (snF r (nI i) ^^^ (-1)) = 0 then nI i else v
def wtI (N p : Nat) (v : Int32) : Prop := v = -6 ∨ ∃ q : Nat, q < p ∧ q < N ∧ v = nI q
theorem wtS_I {set : Int32} {r N i : Nat} {v : Int32} (hi : i < N) (h : wtI N i v) : wtI N (i + 1) (wtS set r i v) := by
  have h1 : wtI N (i + 1) v := by
    rcases h with h | ⟨q, h1, h2, h3⟩
    · exact Or.inl h
    · exact Or.inr ⟨q, by omega, h2, h3⟩
  have h2 : wtI N (i + 1) (nI i) := Or.inr ⟨i, by omega, hi, rfl⟩
  unfold wtS
  repeat' split
  all_goals first | exact h1 | exact h2
def wtP (v : Int32) : Int32 := if v < 0 then 4095 else v
def wtQ (v : Int32) : Int32 := if v < 0 then 12 else bitsF v
theorem x4_fwk (set : Int32) {r : Nat} (hr : r ≤ 3) : ∀ (c i n : Nat) (v : Int32), i + c = 4095 → c < n → wtI 4095 i v → L_X4_fewestWatchers_10 set (nI r) n (wtP v) (wtQ v) (nI i) = some (wtP (gat (wtS set r) c i v)) := by
  intro c
  induction c with
  | zero =>
    intro i n v h1 hn _
    obtain ⟨n, rfl⟩ : ∃ w, n = w + 1 := ⟨n - 1, by omega⟩
    have e : i = 4095 := by omega
    rw [e]
    show b_X4_fewestWatchers_10 (L_X4_fewestWatchers_10 set (nI r) n) set (nI r) (wtP v) (wtQ v) (nI 4095) = some (wtP v)
    unfold b_X4_fewestWatchers_10
    rw [if_pos (show (4095 : Int32) ≤ nI 4095 from Int32.le_refl _)]
  | succ c ih =>
    intro i n v h1 hn hI
    obtain ⟨n, rfl⟩ : ∃ w, n = w + 1 := ⟨n - 1, by omega⟩
    show b_X4_fewestWatchers_10 (L_X4_fewestWatchers_10 set (nI r) n) set (nI r) (wtP v) (wtQ v) (nI i) = some (wtP (gat (wtS set r) c (i + 1) (wtS set r i v)))
    have ih' := ih (i + 1) n _ (by omega) (by omega) (wtS_I (set := set) (r := r) (show i < 4095 by omega) hI)
    have hs : smallB 12 (nI i) := small_nI (m := 12) (by omega)
    rw [← ih']
    unfold b_X4_fewestWatchers_10
    rw [if_neg (show ¬ (4095 : Int32) ≤ nI i from nle_nI (k := 4095) (by decide) (by omega)), nI_1, pc_small hs, x4_ps hr, ob1_s, ps_sn hr hs]
    have hP : wtP (nI i) = nI i := by unfold wtP; rw [if_neg (nI_pos (by omega))]
    have hQ : wtQ (nI i) = bitsF (nI i) := by unfold wtQ; rw [if_neg (nI_pos (by omega))]
    unfold wtS
    by_cases c2 : v < 0
    · have e2 : wtQ v = 12 := by unfold wtQ; rw [if_pos c2]
      have hn12 : ¬ (12 : Int32) ≤ bitsF (nI i) := fun q => by
        have := bits12 hs q
        rw [show (4095 : Int32) = nI 4095 from rfl, nI_eq (by omega) (by decide)] at this
        omega
      rw [if_neg (by rw [e2]; exact hn12), if_pos c2]
      by_cases c3 : set &&& (snF r (nI i) ^^^ (-1)) = 0
      · rw [if_pos c3, if_pos c3, hP, hQ]
      · rw [if_neg c3, if_neg c3]
    · have e2 : wtQ v = bitsF v := by unfold wtQ; rw [if_neg c2]
      rw [if_neg c2]
      by_cases c4 : bitsF v ≤ bitsF (nI i)
      · rw [if_pos c4, if_pos (by rw [e2]; exact c4)]
      · rw [if_neg c4, if_neg (by rw [e2]; exact c4)]
        by_cases c3 : set &&& (snF r (nI i) ^^^ (-1)) = 0
        · rw [if_pos c3, if_pos c3, hP, hQ]
        · rw [if_neg c3, if_neg c3]
theorem x4_fw (set : Int32) {r : Nat} (hr : r ≤ 3) : m_X4_fewestWatchers set (nI r) = some (if gat (wtS set r) 4095 0 (-6) < 0 then 4095 else gat (wtS set r) 4095 0 (-6)) := by
  have h := x4_fwk set hr 4095 0 fu (-6) (Nat.zero_add _) (by show 4095 < 5000; decide) (Or.inl rfl)
  rw [show wtP (-6) = 4095 by decide, show wtQ (-6) = 12 by unfold wtQ; rw [if_pos (by decide)]] at h
  unfold m_X4_fewestWatchers
  unfold wtP at h
  exact h
theorem x5_wt (set v3 : Int32) {r : Nat} (hr : r ≤ 3) : L_X5_watch_39 set (nI r) v3 fu (-6) 0 = (fun v => if v3 = 1 then some v else some (bitsF v)) (gat (wtS set r) 4096 0 (-6)) := by
  refine lp_gat (fun n s v => L_X5_watch_39 set (nI r) v3 n s v) (fun v => if v3 = 1 then some v else some (bitsF v)) 4096 (wtS set r) (fun _ _ => True) (fun n s _ => ?_) (fun n i s hi _ => ⟨?_, trivial⟩) 4096 0 fu (-6) rfl (by decide) trivial
  · show b_X5_watch_39 (L_X5_watch_39 set (nI r) v3 n) set (nI r) v3 s (nI 4096) = _
    unfold b_X5_watch_39
    rw [if_pos (show (4096 : Int32) ≤ nI 4096 from Int32.le_refl _), bits_eq, ob1_s]
  · show b_X5_watch_39 (L_X5_watch_39 set (nI r) v3 n) set (nI r) v3 s (nI i) = _
    have h71 : L_X5_watch_71 (L_X5_watch_39 set (nI r) v3 n) set (nI r) s (nI i) fu 0 0 = L_X5_watch_39 set (nI r) v3 n (if set &&& (snF r (nI i) ^^^ (-1)) = 0 then nI i else s) (nI (i + 1)) := by
      refine lp_gat (fun m a v => L_X5_watch_71 (L_X5_watch_39 set (nI r) v3 n) set (nI r) s (nI i) m a v) (fun a => L_X5_watch_39 set (nI r) v3 n (if set &&& (a ^^^ (-1)) = 0 then nI i else s) (nI (i + 1))) 12 (fun p a => if bitI (nI i) p = 1 then a ||| strF (p + 12 - r) (2 * r + 1) else a) (fun _ _ => True) (fun m a _ => ?_) (fun m p a hp _ => ⟨?_, trivial⟩) 12 0 fu 0 rfl (by decide) trivial
      · show b_X5_watch_71 (L_X5_watch_39 set (nI r) v3 n) (L_X5_watch_71 (L_X5_watch_39 set (nI r) v3 n) set (nI r) s (nI i) m) set (nI r) s (nI i) a (nI 12) = _
        unfold b_X5_watch_71
        rw [if_pos (show (12 : Int32) ≤ nI 12 from Int32.le_refl _), nI_1]
        by_cases c : set &&& (a ^^^ (-1)) = 0
        · rw [if_pos c, if_pos c]
        · rw [if_neg c, if_neg c]
      · show b_X5_watch_71 (L_X5_watch_39 set (nI r) v3 n) (L_X5_watch_71 (L_X5_watch_39 set (nI r) v3 n) set (nI r) s (nI i) m) set (nI r) s (nI i) a (nI p) = _
        unfold b_X5_watch_71
        have e1 : (nI p + 12) - nI r = nI (p + 12 - r) := by
          rw [show nI p + 12 = nI (p + 12) from nI_add p 12]
          exact pk_sub (by omega)
        have e2 : (2 * nI r) + 1 = nI (2 * r + 1) := by
          rw [show (2 : Int32) * nI r = nI (2 * r) from pk_mul 2 r, nI_1]
        rw [if_neg (show ¬ (12 : Int32) ≤ nI p from nle_nI (k := 12) (by decide) hp), has_eq, e1, e2, x5_str (by omega) (by omega), ob1_s, Int32.or_zero, nI_1]
        by_cases c : bitI (nI i) p = 1
        · rw [if_pos c, if_pos c, if_neg (by decide)]
        · rw [if_neg c, if_neg c, if_pos rfl]
    unfold b_X5_watch_39 wtS
    rw [if_neg (show ¬ (4096 : Int32) ≤ nI i from nle_nI (k := 4096) (by decide) hi), h71, bits_eq, bits_eq, ob1_s, ob1_s, nI_1]
    by_cases c2 : s < 0
    · rw [if_pos c2, if_pos c2]
    · rw [if_neg c2, if_neg c2]
      by_cases c4 : bitsF s ≤ bitsF (nI i)
      · rw [if_pos c4, if_pos c4]
      · rw [if_neg c4, if_neg c4]
theorem wt_last {set : Int32} (hs : smallB 12 set) {r : Nat} (hr : r ≤ 3) : gat (wtS set r) 4096 0 (-6) = if gat (wtS set r) 4095 0 (-6) < 0 then 4095 else gat (wtS set r) 4095 0 (-6) := by
  have hI : wtI 4095 4095 (gat (wtS set r) 4095 0 (-6)) := by
    have := gat_inv (wtI 4095) 4095 0 (-6) (Or.inl rfl) (fun j s _ h2 hI => wtS_I (set := set) (r := r) (by omega) hI)
    rw [Nat.zero_add] at this
    exact this
  rw [show gat (wtS set r) 4096 0 (-6) = gat (wtS set r) 1 (0 + 4095) (gat (wtS set r) 4095 0 (-6)) from gat_split (wtS set r) 4095 1 0 (-6)]
  generalize gat (wtS set r) 4095 0 (-6) = v at hI
  show wtS set r (0 + 4095) v = _
  have hz : set &&& (snF r (nI 4095) ^^^ (-1)) = 0 := by
    apply b_ext
    intro i hi
    rw [b_and, b_not _ hi, b_0]
    by_cases h : i < 12
    · have : bt (snF r (nI 4095)) i = true := (bt_sn hr (nI 4095) i).mpr ⟨h, i, h, by rw [show nI 4095 = 4095 from rfl, b_4095 i hi, decide_eq_true h], Or.inl (by rw [show i + 12 - i = 12 by omega]; exact Nat.zero_le _)⟩
      rw [this]
      exact Bool.and_false _
    · rw [hs i (by omega), Bool.false_and]
  rw [Nat.zero_add]
  unfold wtS
  by_cases c : v < 0
  · rw [if_pos c, if_pos c, if_pos hz]; rfl
  · rw [if_neg c, if_neg c]
    have hle : bitsF v ≤ bitsF (nI 4095) := by
      rw [show bitsF (nI 4095) = 12 by decide +kernel]
      rcases hI with hv | ⟨q, -, hq, hv⟩
      · exact absurd (by rw [hv]; decide) c
      · apply Int32.not_lt.mp
        intro h12
        have h13 := bits12 (x := v) (by rw [hv]; exact small_nI (m := 12) (by omega)) (Int32.le_of_lt h12)
        rw [hv, show (4095 : Int32) = nI 4095 from rfl, nI_eq (by omega) (by decide)] at h13
        omega
    rw [if_pos hle]
set_option maxHeartbeats 4000000 in
theorem p_watch (v1 : Int32) (v2 : Int32) (v3 : Int32) (ct : Int32) (sg : Ar) (si : Int32) (ft : Int32) (th : Int32) (he : Int32) (ma : Int32) (ro : Int32) (fi : Ar) (to : Ar) (ne : Ar) (ac : Int32) (wy : Int32) (fa : Int32) (fp : Int32) (thw : Int32) (hew : Int32) (maw : Int32) (row : Int32) (fiw : Ar) (tow : Ar) (zth : Int32) (zsi : Int32) (zsn : Int32) (zre : Int32) (zac : Int32) (zfa : Int32) (zfw : Int32) (zbk : Ar) (znw : Ar) (zto : Ar) (zne : Ar) (zst : Ar) (zpd : Ar) (zcn : Ar) (zig : Ar) (zik : Ar) (hR : CR ct sg si ft th he ma ro fi to ne zth zsi zsn zbk zto zne zst zpd) : ∃ (r : Int32), m_X4_watch v1 v2 v3 = some r ∧ m_X5_watch v1 v2 v3 = some r ∧ CR ct sg si ft th he ma ro fi to ne zth zsi zsn zbk zto zne zst zpd := by
  suffices h : ∃ r, m_X4_watch v1 v2 v3 = some r ∧ m_X5_watch v1 v2 v3 = some r by
    obtain ⟨r, a, b⟩ := h
    exact ⟨r, a, b, hR⟩
  unfold m_X4_watch m_X5_watch
  by_cases h1 : 0 ≤ v1 ∧ v1 ≤ 4095
  · by_cases h2 : 0 ≤ v2 ∧ v2 ≤ 3
    · by_cases h3 : 0 ≤ v3 ∧ v3 ≤ 1
      · obtain ⟨w, hw, rfl⟩ := le_lit (n := 4095) (by decide) h1
        obtain ⟨r, hr, rfl⟩ := le_lit (n := 3) (by decide) h2
        rw [iso_if_p h1, iso_if_p h2, iso_if_p h3, in_if_p h1, in_if_p h2, in_if_p h3, x4_fw _ hr, ob1_s, x5_wt _ _ hr, wt_last (small_nI (m := 12) (by omega)) hr]
        have hI : wtI 4095 4095 (gat (wtS (nI w) r) 4095 0 (-6)) := by
          have := gat_inv (wtI 4095) 4095 0 (-6) (Or.inl rfl) (fun j s _ h2 hI => wtS_I (set := nI w) (r := r) (by omega) hI)
          rw [Nat.zero_add] at this
          exact this
        generalize gat (wtS (nI w) r) 4095 0 (-6) = v at hI
        have hsm : smallB 12 (if v < 0 then 4095 else v) := by
          rcases hI with hv | ⟨q, -, hq, hv⟩
          · rw [if_pos (by rw [hv]; decide)]; exact small_nI (m := 12) (n := 4095) (by decide)
          · rw [if_neg (by rw [hv]; exact nI_pos (by omega)), hv]; exact small_nI (m := 12) (by omega)
        generalize (if v < 0 then (4095 : Int32) else v) = z at hsm
        rw [pc_small hsm]
        obtain ⟨j, hj, rfl⟩ := le_lit (n := 1) (by decide) h3
        rcases (show j = 0 ∨ j = 1 by omega) with rfl | rfl
        · exact ⟨_, rfl, rfl⟩
        · exact ⟨_, rfl, rfl⟩
      · rw [iso_if_p h1, iso_if_p h2, iso_if_n h3, in_if_p h1, in_if_p h2, in_if_n h3]; exact ⟨_, rfl, rfl⟩
    · rw [iso_if_p h1, iso_if_n h2, in_if_p h1, in_if_n h2]; exact ⟨_, rfl, rfl⟩
  · rw [iso_if_n h1, in_if_n h1]; exact ⟨_, rfl, rfl⟩
