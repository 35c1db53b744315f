/-! the best horns -/
theorem isub_sub (a b c : Int32) : a - b - c = a - (b + c) := by
  rw [Int32.sub_eq_add_neg, Int32.sub_eq_add_neg, Int32.sub_eq_add_neg, Int32.neg_add, Int32.sub_eq_add_neg, Int32.add_assoc]
def echN (to : Ar) (d j : Nat) : Nat := (m_X4_echo (nI d) (to j)).toNatClampNeg
theorem ech_eq {to : Ar} (h : Gt to) {d j : Nat} (hd : d ≤ 9) (hj : j < 12) : m_X4_echo (nI d) (to j) = nI (echN to d j) ∧ echN to d j ≤ 2 := by
  obtain ⟨k, hk, e⟩ := le_lit (n := 2) (by decide) (echo_rg (nI_rg (n := 9) hd (by decide)) (h j hj))
  unfold echN
  rw [e, nI_clamp (by omega)]
  exact ⟨rfl, hk⟩
/-- what the last k signs of a code shake off a part -/
def sE (to : Ar) : Nat → Nat → Nat → Nat
  | 0, _, _ => 0
  | k + 1, c, j => echN to (c % 10) j + sE to k (c / 10) j
/-- the same, from the first sign on -/
def tE (to : Ar) : Nat → Nat → Nat → Nat
  | 0, _, _ => 0
  | k + 1, c, j => echN to (c / 10 ^ k) j + tE to k (c % 10 ^ k) j
theorem tE_sE (to : Ar) {k c : Nat} (hk : k ≤ 3) (hc : c < 10 ^ k) (j : Nat) : tE to k c j = sE to k c j := by
  rcases (show k = 0 ∨ k = 1 ∨ k = 2 ∨ k = 3 by omega) with rfl | rfl | rfl | rfl
  · rfl
  · show echN to (c / 1) j + 0 = echN to (c % 10) j + 0
    rw [show c / 1 = c % 10 by omega]
  · show echN to (c / 10) j + (echN to (c % 10 / 1) j + 0) = echN to (c % 10) j + (echN to (c / 10 % 10) j + 0)
    rw [show c / 10 % 10 = c / 10 by omega, show c % 10 / 1 = c % 10 by omega]
    omega
  · show echN to (c / 100) j + (echN to (c % 100 / 10) j + (echN to (c % 100 % 10 / 1) j + 0)) = echN to (c % 10) j + (echN to (c / 10 % 10) j + (echN to (c / 10 / 10 % 10) j + 0))
    rw [show c / 10 / 10 % 10 = c / 100 by omega, show c % 100 % 10 / 1 = c % 10 by omega, show c % 100 / 10 = c / 10 % 10 by omega]
    omega
def ndN (c : Nat) : Bool := decide (c / 10 % 10 ≤ c % 10) && decide (c / 10 / 10 % 10 ≤ c / 10 % 10)
theorem dg2 {b d : Nat} (hb : b ≤ 9) (hd : d ≤ 9) : (10 * b + d) % 10 = d ∧ (10 * b + d) / 10 % 10 = b := by omega
theorem dg3 {a b d : Nat} (ha : a ≤ 9) (hb : b ≤ 9) (hd : d ≤ 9) : (100 * a + 10 * b + d) % 10 = d ∧ (100 * a + 10 * b + d) / 10 % 10 = b ∧ (100 * a + 10 * b + d) / 10 / 10 % 10 = a := by
  have e : (100 * a + 10 * b + d) / 10 = 10 * a + b := by omega
  rw [e]
  omega
theorem swapN (to : Ar) {k c : Nat} (hk : k ≤ 3) (hc : c < 10 ^ k) (hn : ndN c = false) : ∃ c', c' < c ∧ ∀ j, sE to k c' j = sE to k c j := by
  have hn' : ¬ (c / 10 % 10 ≤ c % 10 ∧ c / 10 / 10 % 10 ≤ c / 10 % 10) := by
    intro q
    unfold ndN at hn
    rw [decide_eq_true q.1, decide_eq_true q.2] at hn
    cases hn
  rcases (show k = 0 ∨ k = 1 ∨ k = 2 ∨ k = 3 by omega) with rfl | rfl | rfl | rfl
  · exfalso
    have : c < 1 := hc
    omega
  · exfalso
    have : c < 10 := hc
    omega
  · have : c < 100 := hc
    obtain ⟨b, d, hb, hd, rfl⟩ : ∃ b d, b ≤ 9 ∧ d ≤ 9 ∧ c = 10 * b + d := ⟨c / 10, c % 10, by omega, by omega, by omega⟩
    rw [(dg2 hb hd).1, (dg2 hb hd).2] at hn'
    have hlt : d < b := by
      have : (10 * b + d) / 10 / 10 % 10 = 0 := by omega
      omega
    refine ⟨10 * d + b, by omega, fun j => ?_⟩
    show echN to ((10 * d + b) % 10) j + (echN to ((10 * d + b) / 10 % 10) j + 0) = echN to ((10 * b + d) % 10) j + (echN to ((10 * b + d) / 10 % 10) j + 0)
    rw [(dg2 hb hd).1, (dg2 hb hd).2, (dg2 hd hb).1, (dg2 hd hb).2]
    omega
  · have : c < 1000 := hc
    obtain ⟨a, b, d, ha, hb, hd, rfl⟩ : ∃ a b d, a ≤ 9 ∧ b ≤ 9 ∧ d ≤ 9 ∧ c = 100 * a + 10 * b + d := ⟨c / 100, c % 100 / 10, c % 10, by omega, by omega, by omega, by omega⟩
    rw [(dg3 ha hb hd).1, (dg3 ha hb hd).2.1, (dg3 ha hb hd).2.2] at hn'
    by_cases h : b ≤ d
    · refine ⟨100 * b + 10 * a + d, by omega, fun j => ?_⟩
      show echN to ((100 * b + 10 * a + d) % 10) j + (echN to ((100 * b + 10 * a + d) / 10 % 10) j + (echN to ((100 * b + 10 * a + d) / 10 / 10 % 10) j + 0)) = echN to ((100 * a + 10 * b + d) % 10) j + (echN to ((100 * a + 10 * b + d) / 10 % 10) j + (echN to ((100 * a + 10 * b + d) / 10 / 10 % 10) j + 0))
      rw [(dg3 ha hb hd).1, (dg3 ha hb hd).2.1, (dg3 ha hb hd).2.2, (dg3 hb ha hd).1, (dg3 hb ha hd).2.1, (dg3 hb ha hd).2.2]
      omega
    · refine ⟨100 * a + 10 * d + b, by omega, fun j => ?_⟩
      show echN to ((100 * a + 10 * d + b) % 10) j + (echN to ((100 * a + 10 * d + b) / 10 % 10) j + (echN to ((100 * a + 10 * d + b) / 10 / 10 % 10) j + 0)) = echN to ((100 * a + 10 * b + d) % 10) j + (echN to ((100 * a + 10 * b + d) / 10 % 10) j + (echN to ((100 * a + 10 * b + d) / 10 / 10 % 10) j + 0))
      rw [(dg3 ha hb hd).1, (dg3 ha hb hd).2.1, (dg3 ha hb hd).2.2, (dg3 ha hd hb).1, (dg3 ha hd hb).2.1, (dg3 ha hd hb).2.2]
      omega
theorem sE_le {to : Ar} (h : Gt to) {j : Nat} (hj : j < 12) : ∀ k c, sE to k c j ≤ 2 * k
  | 0, _ => Nat.le_refl _
  | k + 1, c => by
    have h1 := (ech_eq h (show c % 10 ≤ 9 by omega) hj).2
    have h2 := sE_le h hj k (c / 10)
    show echN to (c % 10) j + sE to k (c / 10) j ≤ _
    omega
def knP (th : Int32) (F : Nat → Nat) (s : Nat → Nat) (j : Nat) : Bool := !(decide (0 < F j) && bt th j) && decide (F j ≤ s j)
theorem knP_iff (th : Int32) (F : Nat → Nat) (s : Nat → Nat) (j : Nat) : knP th F s j = true ↔ ¬ spN th F j ∧ F j ≤ s j := by
  unfold knP spN
  rw [Bool.and_eq_true, decide_eq_true_eq, Bool.not_eq_true', Bool.and_eq_false_iff, decide_eq_false_iff_not]
  constructor
  · rintro ⟨h1 | h1, h2⟩
    · exact ⟨fun q => h1 q.1, h2⟩
    · exact ⟨fun q => by rw [h1] at q; exact absurd q.2 (by decide), h2⟩
  · rintro ⟨h1, h2⟩
    refine ⟨?_, h2⟩
    by_cases h3 : 0 < F j
    · right
      cases hb : bt th j
      · rfl
      · exact absurd ⟨h3, hb⟩ h1
    · exact Or.inl h3
def cntB (P : Nat → Bool) : Nat := gat (fun j a => if P j = true then a + 1 else a) 12 0 0
theorem cntB_c {P Q : Nat → Bool} (h : ∀ j, j < 12 → P j = Q j) : cntB P = cntB Q := gat_c 12 0 0 (fun j s _ h2 => by rw [h j (by omega)])
theorem cntB_le (P : Nat → Bool) : cntB P ≤ 12 := gat_inv (fun i (a : Nat) => a ≤ i) 12 0 0 (Nat.le_refl _) (fun j s _ _ hI => by
  show (if P j = true then s + 1 else s) ≤ j + 1
  split <;> omega)
theorem bits_cntB (x : Int32) : bitsF x = nI (cntB (bt x)) := by
  refine gat_rel (f := fun k (a : Int32) => a + bitI x k) (g := fun j (a : Nat) => if bt x j = true then a + 1 else a) (fun _ (a : Int32) (b : Nat) => a = nI b) 12 0 0 0 rfl (fun j s t _ h2 hI => ?_)
  show s + bitI x j = nI (if bt x j = true then t + 1 else t)
  rw [bitI_bt x (by omega), hI]
  cases bt x j
  · exact Int32.add_zero _
  · exact nI_1 t
theorem x3_dbh27 {to fi : Ar} {th : Int32} {F : Nat → Nat} (ht : Gt to) (hF : ∀ j, j < 12 → fi j = nI (F j)) (hb : ∀ j, j < 12 → F j ≤ 99) {j : Nat} (hj : j < 12) (K : Int32 → Int32 → Option Int32) (v3 : Nat) {k : Nat} (hk : k ≤ 3) :
    ∀ (m i n c s : Nat), i + m = k → m < n → c < 2 ^ 31 → s + 2 * m ≤ 100 → L_X3_downByHorns_27 K (nI k) (nI v3) (nI j) th fi to n (nI (F j) - nI s) (nI c) (nI i) = K (nI (if knP th F (fun j => s + sE to m c j) j = true then v3 + 1 else v3)) (nI (j + 1)) := by
  have hbj := hb j hj
  intro m
  induction m with
  | zero =>
    intro i n c s h1 hn hc hs
    obtain ⟨n, rfl⟩ : ∃ w, n = w + 1 := ⟨n - 1, by omega⟩
    have e : i = k := by omega
    show b_X3_downByHorns_27 K (L_X3_downByHorns_27 K (nI k) (nI v3) (nI j) th fi to n) (nI k) (nI v3) (nI j) th fi to (nI (F j) - nI s) (nI c) (nI i) = _
    unfold b_X3_downByHorns_27
    have hlt : (0 : Int32) < nI (F j) - nI s ↔ s < F j := by
      rw [Int32.lt_iff_toInt_lt, pk_sub_toInt (by omega) (by omega)]
      have : (0 : Int32).toInt = 0 := rfl
      omega
    rw [e, if_pos (Int32.le_refl _), nI_1, nI_1, spared_eq hj, ob1_s]
    have hiff : knP th F (fun j => s + sE to 0 c j) j = true ↔ ¬ spN th F j ∧ F j ≤ s := knP_iff th F (fun j => s + sE to 0 c j) j
    by_cases h3 : s < F j
    · rw [if_pos (hlt.mpr h3), if_neg (fun q => by have := (hiff.mp q).2; omega)]
    · rw [if_neg (fun q => h3 (hlt.mp q))]
      by_cases h4 : spN th F j
      · rw [if_neg (fun q => ((spN_if hj (hF _ hj) hbj).mp q) h4), if_neg (fun q => (hiff.mp q).1 h4)]
      · rw [if_pos ((spN_if hj (hF _ hj) hbj).mpr h4), if_pos (hiff.mpr ⟨h4, by omega⟩)]
  | succ m ih =>
    intro i n c s h1 hn hc hs
    obtain ⟨n, rfl⟩ : ∃ w, n = w + 1 := ⟨n - 1, by omega⟩
    show b_X3_downByHorns_27 K (L_X3_downByHorns_27 K (nI k) (nI v3) (nI j) th fi to n) (nI k) (nI v3) (nI j) th fi to (nI (F j) - nI s) (nI c) (nI i) = _
    unfold b_X3_downByHorns_27
    obtain ⟨he1, he2⟩ := ech_eq ht (show c % 10 ≤ 9 by omega) hj
    rw [if_neg (nle_nI (by omega) (show i < k by omega)), inb_nI hj (by decide), gd_t, bnd_eq, nI_clamp (by omega), show irem (nI c) 10 = nI (c % 10) from pk_rem (d := 10) hc (by decide) (by decide), show nI c / 10 = nI (c / 10) from pk_div (d := 10) hc (by decide) (by decide), he1, isub_sub, nI_add, nI_1, ih (i + 1) n (c / 10) (s + echN to (c % 10) j) (by omega) (by omega) (by omega) (by omega)]
    congr 3
    unfold knP
    show ((!(decide (0 < F j) && bt th j) && decide (F j ≤ s + echN to (c % 10) j + sE to m (c / 10) j)) = true) = ((!(decide (0 < F j) && bt th j) && decide (F j ≤ s + (echN to (c % 10) j + sE to m (c / 10) j))) = true)
    rw [Nat.add_assoc]
theorem x3_dbh {to fi : Ar} {th : Int32} {F : Nat → Nat} (ht : Gt to) (hF : ∀ j, j < 12 → fi j = nI (F j)) (hb : ∀ j, j < 12 → F j ≤ 99) {k c : Nat} (hk : k ≤ 3) (hc : c < 2 ^ 31) : m_X3_downByHorns (nI c) (nI k) th fi to = some (nI (cntB (knP th F (sE to k c)))) := by
  refine lp_gat (fun n (s : Nat) v => L_X3_downByHorns_5 (nI c) (nI k) th fi to n (nI s) v) (fun s => some (nI s)) 12 (fun j a => if knP th F (sE to k c) j = true then a + 1 else a) (fun _ _ => True) (fun n s _ => ?_) (fun n i s hi _ => ⟨?_, trivial⟩) 12 0 fu 0 rfl (by decide) trivial
  · show b_X3_downByHorns_5 (L_X3_downByHorns_5 (nI c) (nI k) th fi to n) (nI c) (nI k) th fi to (nI s) (nI 12) = _
    unfold b_X3_downByHorns_5
    rw [if_pos (show (12 : Int32) ≤ nI 12 from Int32.le_refl _)]
  · show b_X3_downByHorns_5 (L_X3_downByHorns_5 (nI c) (nI k) th fi to n) (nI c) (nI k) th fi to (nI s) (nI i) = _
    unfold b_X3_downByHorns_5
    have h := x3_dbh27 (th := th) ht hF hb hi (L_X3_downByHorns_5 (nI c) (nI k) th fi to n) s hk k 0 fu c 0 (by omega) (by show k < 5000; omega) hc (by omega)
    rw [show nI (F i) - nI 0 = fi i by rw [hF i hi]; exact Int32.sub_zero _, show nI 0 = 0 from rfl] at h
    rw [if_neg (show ¬ (12 : Int32) ≤ nI i from nle_nI (k := 12) (by decide) hi), inb_nI hi (by decide), gd_t, nI_clamp (by omega), h]
    congr 3
    unfold knP
    show ((!(decide (0 < F i) && bt th i) && decide (F i ≤ 0 + sE to k c i)) = true) = _
    rw [Nat.zero_add]
def gN (t : Bool) (x s : Nat) : Nat := if t = true ∧ 0 < x then (if 1 < x - s then x - s else 1) else x - s
theorem gN_0 (t : Bool) (x : Nat) : gN t x 0 = x := by
  unfold gN
  split
  · split <;> omega
  · omega
theorem gN_gN (t : Bool) (x s e : Nat) : gN t (gN t x s) e = gN t x (s + e) := by
  unfold gN
  cases t
  · rw [if_neg (fun q => absurd q.1 (by decide)), if_neg (fun q => absurd q.1 (by decide)), if_neg (fun q => absurd q.1 (by decide))]
    omega
  · by_cases h : 0 < x
    · rw [if_pos (show true = true ∧ 0 < x from ⟨rfl, h⟩), if_pos (show true = true ∧ 0 < x from ⟨rfl, h⟩)]
      by_cases h1 : 1 < x - s
      · rw [if_pos h1, if_pos ⟨rfl, by omega⟩]
        by_cases h2 : 1 < x - (s + e)
        · rw [if_pos h2, if_pos (by omega)]; omega
        · rw [if_neg h2, if_neg (by omega)]
      · rw [if_neg h1, if_pos ⟨rfl, by omega⟩, if_neg (by omega), if_neg (by omega)]
    · have e0 : x = 0 := by omega
      subst e0
      rw [if_neg (show ¬ (true = true ∧ 0 < 0) from fun q => absurd q.2 (by decide)), if_neg (show ¬ (true = true ∧ 0 < 0 - s) from fun q => by have := q.2; omega), if_neg (show ¬ (true = true ∧ 0 < 0) from fun q => absurd q.2 (by decide))]
      omega
theorem gN_le (t : Bool) {x : Nat} (s : Nat) (h : x ≤ 99) : gN t x s ≤ 99 := by
  unfold gN
  split
  · split <;> omega
  · omega
theorem gN_z (th : Int32) (F : Nat → Nat) (j s : Nat) : gN (bt th j) (F j) s = 0 ↔ ¬ spN th F j ∧ F j ≤ s := by
  unfold gN spN
  by_cases h : bt th j = true ∧ 0 < F j
  · rw [if_pos h]
    constructor
    · intro q
      split at q <;> omega
    · exact fun q => absurd ⟨h.2, h.1⟩ q.1
  · rw [if_neg h]
    exact ⟨fun q => ⟨fun w => h ⟨w.2, w.1⟩, by omega⟩, fun q => by have := q.2; omega⟩
theorem lfG {th : Int32} {j x e : Nat} (hj : j < 12) (hx : x ≤ 99) (he : e ≤ 99) : lf th j (nI x) (nI e) = nI (gN (bt th j) x e) := by
  rw [lfN hj hx he]
  congr 1
  unfold gN
  by_cases h : 0 < x ∧ bt th j = true
  · rw [if_pos h, if_pos (show bt th j = true ∧ 0 < x from ⟨h.2, h.1⟩)]
  · rw [if_neg h, if_neg (show ¬ (bt th j = true ∧ 0 < x) from fun q => h ⟨q.2, q.1⟩)]
    split <;> omega
theorem x5_h72 {to mto : Ar} {th : Int32} {F : Nat → Nat} (ht : Gt to) (hto : ∀ i, i < 12 → mto i = to i) (hb : ∀ j, j < 12 → F j ≤ 99) (K : Int32 → Int32 → Int32 → Ar → Option (Int32 × Ar)) (v4 v5 v6 : Int32) {k : Nat} (hk : k ≤ 3) :
    ∀ (m i n r : Nat) (s : Nat → Nat) (nw : Ar), i + m = k → m < n → r < 10 ^ m → (∀ j, j < 12 → nw j = nI (gN (bt th j) (F j) (s j))) →
    ∃ nw2, L_X5_horns_72 K (nI k) v4 v5 v6 th mto n (nI r) (nI (10 ^ m)) (nI i) nw = (if nI (cntB (knP th F (fun j => s j + tE to m r j))) ≤ v4 then K v4 v5 (v6 + 1) nw2 else K (nI (cntB (knP th F (fun j => s j + tE to m r j)))) v6 (v6 + 1) nw2) := by
  intro m
  induction m with
  | zero =>
    intro i n r s nw h1 hn hr hnw
    obtain ⟨n, rfl⟩ : ∃ w, n = w + 1 := ⟨n - 1, by omega⟩
    have e : i = k := by omega
    refine ⟨nw, ?_⟩
    show b_X5_horns_72 K (L_X5_horns_72 K (nI k) v4 v5 v6 th mto n) (nI k) v4 v5 v6 th mto (nI r) (nI (10 ^ 0)) (nI i) nw = _
    unfold b_X5_horns_72 j_X5_horns_130
    have hc : cntB (bt (dbF nw)) = cntB (knP th F (fun j => s j + tE to 0 r j)) := cntB_c (fun j hj => by
      rw [bt_dbF, decide_eq_true hj, Bool.true_and, Bool.eq_iff_iff, decide_eq_true_eq, knP_iff, hnw j hj, show (0 : Int32) = nI 0 from rfl, nI_eq (by have := gN_le (bt th j) (s j) (hb j hj); omega) (by decide), gN_z]
      rfl)
    rw [e, if_pos (Int32.le_refl _), x5_down, ob1_s, bits_eq, ob1_s, bits_cntB, hc]
    by_cases h : nI (cntB (knP th F (fun j => s j + tE to 0 r j))) ≤ v4
    · rw [if_pos h, if_pos h, if_pos h]
    · rw [if_neg h, if_neg h, if_neg h]
  | succ m ih =>
    intro i n r s nw h1 hn hr hnw
    obtain ⟨n, rfl⟩ : ∃ w, n = w + 1 := ⟨n - 1, by omega⟩
    have hpow : 10 ^ m ≤ 10 ^ 2 := Nat.pow_le_pow_right (by decide) (by omega)
    have hp0 : 0 < 10 ^ m := Nat.pow_pos (by decide)
    have hp1 : 10 ^ (m + 1) = 10 ^ m * 10 := Nat.pow_succ ..
    have hd : r / 10 ^ m < 10 := Nat.div_lt_of_lt_mul (by omega)
    have hdiv : nI (10 ^ (m + 1)) / 10 = nI (10 ^ m) := by
      rw [show nI (10 ^ (m + 1)) / 10 = nI (10 ^ (m + 1) / 10) from pk_div (d := 10) (by omega) (by decide) (by decide), hp1, Nat.mul_div_cancel _ (by decide)]
    have hbody : L_X5_horns_72 K (nI k) v4 v5 v6 th mto (n + 1) (nI r) (nI (10 ^ (m + 1))) (nI i) nw = b_X5_horns_72 K (L_X5_horns_72 K (nI k) v4 v5 v6 th mto n) (nI k) v4 v5 v6 th mto (nI r) (nI (10 ^ (m + 1))) (nI i) nw := rfl
    rw [hbody]
    unfold b_X5_horns_72
    have hnz : nz (nI (10 ^ m)) = true := by
      unfold nz
      rw [Bool.not_eq_true', beq_eq_false_iff_ne, show (0 : Int32) = nI 0 from rfl, Ne, nI_eq (by omega) (by decide)]
      omega
    rw [if_neg (nle_nI (by omega) (show i < k by omega)), hdiv, hnz, gd_t, x5_blow, ob1_s, gd_t, pk_div (by omega) hp0 (by omega), show irem (nI r) (nI (10 ^ m)) = nI (r % 10 ^ m) from pk_rem (by omega) hp0 (by omega), nI_1]
    obtain ⟨nw2, h2⟩ := ih (i + 1) n (r % 10 ^ m) (fun j => s j + echN to (r / 10 ^ m) j) (amap 0 12 (fun j x => lf th j x (m_X4_echo (nI (r / 10 ^ m)) (mto j))) nw) (by omega) (by omega) (Nat.mod_lt _ hp0) (fun j hj => by
      obtain ⟨he1, he2⟩ := ech_eq ht (show r / 10 ^ m ≤ 9 by omega) hj
      rw [amap_in (Nat.zero_le _) hj, hto j hj, he1, hnw j hj, lfG hj (gN_le _ _ (hb j hj)) (by omega), gN_gN])
    refine ⟨nw2, h2.trans ?_⟩
    have e : (fun j => s j + echN to (r / 10 ^ m) j + tE to m (r % 10 ^ m) j) = (fun j => s j + tE to (m + 1) r j) := by
      funext j
      show _ = s j + (echN to (r / 10 ^ m) j + tE to m (r % 10 ^ m) j)
      rw [Nat.add_assoc]
    rw [e]
def bhM (C : Nat → Nat) (i : Nat) (s : Int32 × Int32) : Int32 × Int32 := if nI (C i) ≤ s.1 then s else (nI (C i), nI i)
def bhC (C : Nat → Nat) (i : Nat) (s : Nat × Nat) : Nat × Nat := if ndN i = true then (if C i ≤ s.2 then s else (i, C i)) else s
theorem x5_h52 {to mto bk : Ar} {th : Int32} {F : Nat → Nat} (ht : Gt to) (hto : ∀ i, i < 12 → mto i = to i) (hF : ∀ j, j < 12 → bk j = nI (F j)) (hb : ∀ j, j < 12 → F j ≤ 99) {k : Nat} (hk : k ≤ 3) (v2 : Int32) :
    ∀ (c i n : Nat) (s : Int32 × Int32) (nw : Ar), i + c = 10 ^ k → c < n → ∃ nw2, L_X5_horns_52 (nI k) v2 (nI (10 ^ k)) th bk mto n s.1 s.2 (nI i) nw = some ((if v2 = 0 then (gat (bhM (fun i => cntB (knP th F (sE to k i)))) c i s).1 else (gat (bhM (fun i => cntB (knP th F (sE to k i)))) c i s).2), nw2) := by
  have hpow : 10 ^ k ≤ 10 ^ 3 := Nat.pow_le_pow_right (by decide) hk
  intro c
  induction c with
  | zero =>
    intro i n s nw h1 hn
    obtain ⟨n, rfl⟩ : ∃ w, n = w + 1 := ⟨n - 1, by omega⟩
    have e : i = 10 ^ k := by omega
    refine ⟨nw, ?_⟩
    show b_X5_horns_52 (L_X5_horns_52 (nI k) v2 (nI (10 ^ k)) th bk mto n) (nI k) v2 (nI (10 ^ k)) th bk mto s.1 s.2 (nI i) nw = some ((if v2 = 0 then s.1 else s.2), nw)
    unfold b_X5_horns_52
    rw [e, if_pos (Int32.le_refl _)]
    by_cases h : v2 = 0
    · rw [if_pos h, if_pos h]
    · rw [if_neg h, if_neg h]
  | succ c ih =>
    intro i n s nw h1 hn
    obtain ⟨n, rfl⟩ : ∃ w, n = w + 1 := ⟨n - 1, by omega⟩
    have hbody : L_X5_horns_52 (nI k) v2 (nI (10 ^ k)) th bk mto (n + 1) s.1 s.2 (nI i) nw = b_X5_horns_52 (L_X5_horns_52 (nI k) v2 (nI (10 ^ k)) th bk mto n) (nI k) v2 (nI (10 ^ k)) th bk mto s.1 s.2 (nI i) nw := rfl
    rw [hbody]
    unfold b_X5_horns_52
    rw [if_neg (nle_nI (by omega) (show i < 10 ^ k by omega)), x5_asNow, ob1_s]
    obtain ⟨nw2, h2⟩ := x5_h72 (th := th) (F := F) ht hto hb (L_X5_horns_52 (nI k) v2 (nI (10 ^ k)) th bk mto n) s.1 s.2 (nI i) hk k 0 fu i (fun _ => 0) (amap 0 15 (fun j _ => bk j) nw) (by omega) (by show k < 5000; omega) (by omega) (fun j hj => by
      rw [amap_in (Nat.zero_le _) (by omega), gN_0]; exact hF j hj)
    have e : (fun j => 0 + tE to k i j) = sE to k i := by
      funext j
      rw [Nat.zero_add]
      exact tE_sE to hk (by omega) j
    have e2 : (fun j => (fun _ => 0) j + tE to k i j) = sE to k i := e
    rw [e2] at h2
    obtain ⟨nw3, h3⟩ := ih (i + 1) n (bhM (fun i => cntB (knP th F (sE to k i))) i s) nw2 (by omega) (by omega)
    refine ⟨nw3, Eq.trans h2 (Eq.trans ?_ h3)⟩
    rw [nI_1]
    unfold bhM
    by_cases h : nI (cntB (knP th F (sE to k i))) ≤ s.1
    · rw [if_pos h, if_pos h]
    · rw [if_neg h, if_neg h]
theorem x3_nd {c : Nat} (hc : c < 2 ^ 31) : m_X3_neverGoesDown (nI c) = some (if ndN c = true then 1 else 0) := by
  have d10 : ∀ {x : Nat}, x < 2 ^ 31 → nI x / 10 = nI (x / 10) := fun {x} hx => pk_div (d := 10) hx (by decide) (by decide)
  have r10 : ∀ {x : Nat}, x < 2 ^ 31 → irem (nI x) 10 = nI (x % 10) := fun {x} hx => pk_rem (d := 10) hx (by decide) (by decide)
  have hb : ∀ n x (v : Int32), L_X3_neverGoesDown_4 (n + 1) x v = b_X3_neverGoesDown_4 (L_X3_neverGoesDown_4 n) x v := fun _ _ _ => rfl
  unfold m_X3_neverGoesDown
  rw [show fu = 4997 + 1 + 1 + 1 from rfl, hb]
  unfold b_X3_neverGoesDown_4
  rw [if_neg (by decide), d10 hc, r10 hc, r10 (by omega)]
  unfold ndN
  by_cases h1 : c / 10 % 10 ≤ c % 10
  · rw [if_pos (nI_le h1 (by omega)), decide_eq_true h1, Bool.true_and, hb]
    unfold b_X3_neverGoesDown_4
    rw [if_neg (by decide), d10 (by omega), r10 (by omega), r10 (by omega)]
    by_cases h2 : c / 10 / 10 % 10 ≤ c / 10 % 10
    · rw [if_pos (nI_le h2 (by omega)), decide_eq_true h2, hb]
      rfl
    · rw [if_neg (nI_ge (by omega) (by omega)), decide_eq_false h2]
      rfl
  · rw [if_neg (nI_ge (by omega) (by omega)), decide_eq_false h1, Bool.false_and]
    rfl
theorem x4_p10 {k : Nat} (hk : k ≤ 3) : m_X4_powerOfTen (nI k) = some (nI (10 ^ k)) := by
  rcases (show k = 0 ∨ k = 1 ∨ k = 2 ∨ k = 3 by omega) with rfl | rfl | rfl | rfl <;> rfl
theorem x5_h26 {k : Nat} (hk : k ≤ 3) (v2 th : Int32) (bk nw to : Ar) : L_X5_horns_26 (nI k) v2 th bk nw to fu 1 0 = L_X5_horns_52 (nI k) v2 (nI (10 ^ k)) th bk to fu (-1) 0 0 nw := by
  have hb : ∀ n (x v : Int32), L_X5_horns_26 (nI k) v2 th bk nw to (n + 1) x v = b_X5_horns_26 (L_X5_horns_26 (nI k) v2 th bk nw to n) (nI k) v2 th bk nw to x v := fun _ _ _ => rfl
  have h := lp_gat (fun n (s : Nat) v => L_X5_horns_26 (nI k) v2 th bk nw to n (nI s) v) (fun s => L_X5_horns_52 (nI k) v2 (nI s) th bk to fu (-1) 0 0 nw) k (fun _ s => s * 10) (fun _ _ => True) (fun n s _ => by
      show L_X5_horns_26 (nI k) v2 th bk nw to (n + 1) (nI s) (nI k) = _
      rw [hb]
      unfold b_X5_horns_26
      rw [if_pos (Int32.le_refl _)]) (fun n i s hi _ => ⟨by
      show L_X5_horns_26 (nI k) v2 th bk nw to (n + 1) (nI s) (nI i) = _
      rw [hb]
      unfold b_X5_horns_26
      rw [if_neg (nle_nI (by omega) hi), nI_1, show nI s * 10 = nI (s * 10) from pk_mul s 10], trivial⟩) k 0 fu 1 (by omega) (by show k < 5000; omega) trivial
  refine h.trans ?_
  have e : gat (fun _ (s : Nat) => s * 10) k 0 1 = 10 ^ k := by
    rcases (show k = 0 ∨ k = 1 ∨ k = 2 ∨ k = 3 by omega) with rfl | rfl | rfl | rfl <;> rfl
  show L_X5_horns_52 (nI k) v2 (nI (gat (fun _ (s : Nat) => s * 10) k 0 1)) th bk to fu (-1) 0 0 nw = _
  rw [e]
theorem x3_bh {to fi : Ar} {th : Int32} {F : Nat → Nat} (ht : Gt to) (hF : ∀ j, j < 12 → fi j = nI (F j)) (hb : ∀ j, j < 12 → F j ≤ 99) {k : Nat} (hk : k ≤ 3) :
    m_X3_bestHorns (nI k) th fi to = some (nI (gat (bhC (fun i => cntB (knP th F (sE to k i)))) (10 ^ k - 1) 1 (0, cntB (knP th F (sE to k 0)))).1) := by
  have hpow : 10 ^ k ≤ 10 ^ 3 := Nat.pow_le_pow_right (by decide) hk
  have hp0 : 0 < 10 ^ k := Nat.pow_pos (by decide)
  unfold m_X3_bestHorns
  rw [show m_X3_downByHorns 0 (nI k) th fi to = some (nI (cntB (knP th F (sE to k 0)))) from x3_dbh ht hF hb hk (by decide), ob1_s, x4_p10 hk, ob1_s]
  refine lp_gat (fun n (s : Nat × Nat) v => L_X3_bestHorns_18 (nI k) (nI (10 ^ k)) th fi to n (nI s.1) (nI s.2) v) (fun s => some (nI s.1)) (10 ^ k) (bhC (fun i => cntB (knP th F (sE to k i)))) (fun _ s => s.2 ≤ 12) (fun n s _ => ?_) (fun n i s hi hs => ⟨?_, ?_⟩) (10 ^ k - 1) 1 fu (0, cntB (knP th F (sE to k 0))) (by omega) (by show 10 ^ k - 1 < 5000; omega) (cntB_le _)
  · show b_X3_bestHorns_18 (L_X3_bestHorns_18 (nI k) (nI (10 ^ k)) th fi to n) (nI k) (nI (10 ^ k)) th fi to (nI s.1) (nI s.2) (nI (10 ^ k)) = _
    unfold b_X3_bestHorns_18
    rw [if_pos (Int32.le_refl _)]
  · show b_X3_bestHorns_18 (L_X3_bestHorns_18 (nI k) (nI (10 ^ k)) th fi to n) (nI k) (nI (10 ^ k)) th fi to (nI s.1) (nI s.2) (nI i) = _
    have hcl := cntB_le (knP th F (sE to k i))
    unfold b_X3_bestHorns_18 bhC
    rw [if_neg (nle_nI (by omega) hi), x3_nd (by omega), ob1_s, x3_dbh ht hF hb hk (by omega), ob1_s, nI_1]
    cases hn : ndN i
    · rw [if_pos (show (if false = true then (1 : Int32) else 0) = 0 from rfl), if_neg (show ¬ (false = true) by decide)]
    · rw [if_pos rfl, if_neg (by decide), if_pos rfl]
      by_cases h : cntB (knP th F (sE to k i)) ≤ s.2
      · rw [if_pos (nI_le h (by omega)), if_pos h]
      · rw [if_neg (nI_ge (by omega) (by omega)), if_neg h]
  · unfold bhC
    split
    · split
      · exact hs
      · exact cntB_le _
    · exact hs
theorem bh_both {to : Ar} {th : Int32} {F : Nat → Nat} {k : Nat} (hk : k ≤ 3) : ∃ b : Nat, b < 10 ^ k ∧ (gat (bhC (fun i => cntB (knP th F (sE to k i)))) (10 ^ k - 1) 1 (0, cntB (knP th F (sE to k 0)))).1 = b ∧ gat (bhM (fun i => cntB (knP th F (sE to k i)))) (10 ^ k) 0 (-1, 0) = (nI (cntB (knP th F (sE to k b))), nI b) := by
  have hpow : 10 ^ k ≤ 10 ^ 3 := Nat.pow_le_pow_right (by decide) hk
  have hp0 : 0 < 10 ^ k := Nat.pow_pos (by decide)
  generalize hC : (fun i => cntB (knP th F (sE to k i))) = C
  have hCi : ∀ i, cntB (knP th F (sE to k i)) = C i := fun i => by rw [← hC]
  have hCl : ∀ i, C i ≤ 12 := fun i => by rw [← hCi]; exact cntB_le _
  have hsw : ∀ i, i < 10 ^ k → ndN i = false → ∃ i', i' < i ∧ C i' = C i := fun i hi hn => by
    obtain ⟨i', h1, h2⟩ := swapN to hk hi hn
    refine ⟨i', h1, ?_⟩
    rw [← hCi, ← hCi]
    congr 2
    funext j
    exact h2 j
  have h := gat_rel (f := bhC C) (g := bhM C) (fun i (s : Nat × Nat) (t : Int32 × Int32) => s.1 < 10 ^ k ∧ s.2 = C s.1 ∧ t = (nI s.2, nI s.1) ∧ ∀ j, j < i → C j ≤ s.2) (10 ^ k - 1) 1 (0, C 0) (nI (C 0), nI 0) ⟨hp0, rfl, rfl, fun j hj => by rw [show j = 0 by omega]; exact Nat.le_refl _⟩ (fun i s t h1 h2 hI => by
    obtain ⟨h3, h4, h5, h6⟩ := hI
    have hi : i < 10 ^ k := by omega
    subst h5
    have hci := hCl i
    have hcs := hCl s.1
    have hle : nI (C i) ≤ nI s.2 ↔ C i ≤ s.2 := nI_leI (by omega) (by omega)
    have keep : C i ≤ s.2 → s.1 < 10 ^ k ∧ s.2 = C s.1 ∧ bhM C i (nI s.2, nI s.1) = (nI s.2, nI s.1) ∧ ∀ j, j < i + 1 → C j ≤ s.2 := fun h => by
      refine ⟨h3, h4, if_pos (hle.mpr h), fun j hj => ?_⟩
      by_cases e : j = i
      · rw [e]; exact h
      · exact h6 j (by omega)
    unfold bhC
    cases hn : ndN i
    · rw [if_neg (by decide)]
      obtain ⟨i', h7, h8⟩ := hsw i hi hn
      exact keep (by rw [← h8]; exact h6 i' h7)
    · rw [if_pos rfl]
      by_cases h : C i ≤ s.2
      · rw [if_pos h]; exact keep h
      · rw [if_neg h]
        refine ⟨hi, rfl, if_neg (fun q => h (hle.mp q)), fun j hj => ?_⟩
        show C j ≤ C i
        by_cases e : j = i
        · rw [e]; exact Nat.le_refl _
        · have := h6 j (by omega)
          omega)
  obtain ⟨h3, h4, h5, -⟩ := h
  have e0 : cntB (knP th F (sE to k 0)) = C 0 := hCi 0
  rw [e0]
  refine ⟨_, h3, rfl, ?_⟩
  have e1 : gat (bhM C) (10 ^ k) 0 (-1, 0) = gat (bhM C) (10 ^ k - 1) 1 (nI (C 0), nI 0) := by
    obtain ⟨w, hw⟩ : ∃ w, 10 ^ k = w + 1 := ⟨10 ^ k - 1, by omega⟩
    rw [hw]
    show gat (bhM C) w 1 (bhM C 0 (-1, 0)) = gat (bhM C) w 1 (nI (C 0), nI 0)
    congr 1
    unfold bhM
    refine if_neg (fun q => ?_)
    have h7 := nI_pos' (show C 0 < 2 ^ 31 by have := hCl 0; omega)
    exact absurd (Int32.le_trans h7 q) (by decide)
  rw [e1, h5, hCi, ← h4]
set_option maxHeartbeats 4000000 in
theorem p_horns (v1 : Int32) (v2 : Int32) (ct : Int32) (sg : Ar) (si : Int32) (ft : Int32) (th : Int32) (he : Int32) (ma : Int32) (ro : Int32) (fi : Ar) (to : Ar) (ne : Ar) (ac : Int32) (wy : Int32) (fa : Int32) (fp : Int32) (thw : Int32) (hew : Int32) (maw : Int32) (row : Int32) (fiw : Ar) (tow : Ar) (zth : Int32) (zsi : Int32) (zsn : Int32) (zre : Int32) (zac : Int32) (zfa : Int32) (zfw : Int32) (zbk : Ar) (znw : Ar) (zto : Ar) (zne : Ar) (zst : Ar) (zpd : Ar) (zcn : Ar) (zig : Ar) (zik : Ar) (hR : CR ct sg si ft th he ma ro fi to ne zth zsi zsn zbk zto zne zst zpd) : ∃ (r : Int32) (znw2 : Ar), m_X4_horns v1 v2 th fi to = some r ∧ m_X5_horns v1 v2 zth zbk znw zto = some (r, znw2) ∧ CR ct sg si ft th he ma ro fi to ne zth zsi zsn zbk zto zne zst zpd := by
  obtain ⟨hp, hw, hm, hs⟩ := hR
  obtain ⟨hW, hG, hto, hGt, rfl, hth⟩ := id hw
  unfold m_X4_horns m_X5_horns
  by_cases h1 : 0 ≤ v1 ∧ v1 ≤ 3
  · by_cases h2 : 0 ≤ v2 ∧ v2 ≤ 1
    · obtain ⟨k, hk, rfl⟩ := le_lit (n := 3) (by decide) h1
      obtain ⟨F, hF⟩ := Gf_N hG.1
      have hpow : 10 ^ k ≤ 10 ^ 3 := Nat.pow_le_pow_right (by decide) hk
      have hf1 : ∀ j, j < 12 → fi j = nI (F j) := fun j hj => (hF j hj).1
      have hf2 : ∀ j, j < 12 → F j ≤ 99 := fun j hj => (hF j hj).2
      have hf3 : ∀ j, j < 12 → zbk j = nI (F j) := fun j hj => by rw [hW.1 j hj]; exact hf1 j hj
      obtain ⟨b, hb, e1, e2⟩ := bh_both (to := to) (th := zth) (F := F) hk
      obtain ⟨nw2, h5⟩ := x5_h52 (th := zth) hGt hto hf3 hf2 hk v2 (10 ^ k) 0 fu (-1, 0) znw (by omega) (by show 10 ^ k < 5000; omega)
      rw [e2] at h5
      have h5' : L_X5_horns_52 (nI k) v2 (nI (10 ^ k)) zth zbk zto fu (-1) 0 0 znw = some ((if v2 = 0 then nI (cntB (knP zth F (sE to k b))) else nI b), nw2) := h5
      rw [iso_if_p h1, iso_if_p h2, in_if_p h1, in_if_p h2, x3_bh hGt hf1 hf2 hk, ob1_s, e1, x5_h26 hk, h5', x3_dbh hGt hf1 hf2 hk (by omega), ob1_s]
      refine ⟨if v2 = 0 then nI (cntB (knP zth F (sE to k b))) else nI b, nw2, ?_, rfl, hp, hw, hm, hs⟩
      by_cases h : v2 = 0
      · rw [if_pos h, if_pos h]
      · rw [if_neg h, if_neg h]
    · rw [iso_if_p h1, iso_if_n h2, in_if_p h1, in_if_n h2]
      exact ⟨_, _, rfl, rfl, hp, hw, hm, hs⟩
  · rw [iso_if_n h1, in_if_n h1]
    exact ⟨_, _, rfl, rfl, hp, hw, hm, hs⟩
