/-! pure base: numbers, guards, loops over arrays -/
theorem gd_t {α : Type} (k : Option α) : gd true k = k := rfl
theorem bnd_eq {α β : Type} (e : α) (k : α → β) : bnd e k = k e := rfl
theorem inb_nI {i N : Nat} (h : i < N) (hN : N < 2 ^ 31) : inb (nI i) N = true := by
  unfold inb
  rw [Bool.and_eq_true, decide_eq_true_eq, decide_eq_true_eq, nI_clamp (by omega)]
  exact ⟨nI_pos' (by omega), h⟩
theorem nI_lit (k : Nat) : (OfNat.ofNat k : Int32) = nI k := rfl
theorem iso0 (v a b : Int32) : m_X4_isOutside v a b = 0 ↔ (a ≤ v ∧ v ≤ b) := by
  unfold m_X4_isOutside
  by_cases h1 : v < a
  · rw [if_pos h1]
    refine ⟨fun h => absurd h (by decide), fun h => absurd h1 (Int32.not_lt.mpr h.1)⟩
  · rw [if_neg h1]
    by_cases h2 : v ≤ b
    · rw [if_pos h2]; exact ⟨fun _ => ⟨Int32.not_lt.mp h1, h2⟩, fun _ => rfl⟩
    · rw [if_neg h2]; exact ⟨fun h => absurd h (by decide), fun h => absurd h.2 h2⟩
theorem iso_p {v a b : Int32} (h : a ≤ v ∧ v ≤ b) : m_X4_isOutside v a b = 0 := (iso0 v a b).mpr h
theorem in_p {v a b : Int32} (h : a ≤ v ∧ v ≤ b) : m_X5_in v a b = 1 := by
  unfold m_X5_in
  rw [if_neg (Int32.not_lt.mpr h.1), if_neg (Int32.not_lt.mpr h.2)]
theorem in_n {v a b : Int32} (h : ¬ (a ≤ v ∧ v ≤ b)) : m_X5_in v a b = 0 := by
  unfold m_X5_in
  by_cases h1 : v < a
  · rw [if_pos h1]
  · rw [if_neg h1]
    by_cases h2 : b < v
    · rw [if_pos h2]
    · exact absurd ⟨Int32.not_lt.mp h1, Int32.not_lt.mp h2⟩ h
theorem in1 (v a b : Int32) : m_X5_in v a b = 0 ↔ ¬ (a ≤ v ∧ v ≤ b) := by
  by_cases h : a ≤ v ∧ v ≤ b
  · rw [in_p h]; exact ⟨fun q => absurd q (by decide), fun q => absurd h q⟩
  · rw [in_n h]; exact ⟨fun _ => h, fun _ => rfl⟩
theorem isPart_eq (v : Int32) : m_X5_isPart v = some (m_X5_in v 0 11) := by
  unfold m_X5_isPart
  by_cases h : 0 ≤ v ∧ v ≤ 11
  · rw [in_p h]; rfl
  · rw [in_n h]; rfl
theorem rgN {v : Int32} {n : Nat} (hn : n < 2 ^ 31) (h0 : 0 ≤ v) (h : v ≤ nI n) : ∃ j : Nat, j ≤ n ∧ v = nI j :=
  nI_of2 (nI_toInt hn) (Int32.not_lt.mpr h0) h
theorem nI_rg {j n : Nat} (h : j ≤ n) (hn : n < 2 ^ 31) : 0 ≤ nI j ∧ nI j ≤ nI n := ⟨nI_pos' (by omega), nI_le h hn⟩
/-- an array with the places from a to b changed each by itself -/
def amap (a b : Nat) (g : Nat → Int32 → Int32) (f : Ar) : Ar := fun j => if a ≤ j ∧ j < b then g j (f j) else f j
theorem amap_in {a b : Nat} {g : Nat → Int32 → Int32} {f : Ar} {j : Nat} (h : a ≤ j) (h2 : j < b) : amap a b g f j = g j (f j) := if_pos ⟨h, h2⟩
theorem amap_out {a b : Nat} {g : Nat → Int32 → Int32} {f : Ar} {j : Nat} (h : b ≤ j) : amap a b g f j = f j := if_neg (by omega)
theorem amap_end {b : Nat} {g : Nat → Int32 → Int32} {f : Ar} : amap b b g f = f := by
  funext j
  exact if_neg (by omega)
theorem upd_at {f : Ar} {k : Nat} {x : Int32} : upd f k x k = x := pk_us
theorem upd_ne {f : Ar} {k j : Nat} {x : Int32} (h : j ≠ k) : upd f k x j = f j := pk_un h
theorem amap_step {a b : Nat} {g : Nat → Int32 → Int32} {f : Ar} (h : a < b) : amap (a + 1) b g (upd f a (g a (f a))) = amap a b g f := by
  funext j
  unfold amap
  by_cases hj : j = a
  · subst hj
    rw [if_neg (by omega), if_pos ⟨Nat.le_refl _, h⟩, upd_at]
  · rw [upd_ne hj]
    by_cases h2 : a + 1 ≤ j ∧ j < b
    · rw [if_pos h2, if_pos ⟨by omega, h2.2⟩]
    · rw [if_neg h2, if_neg (by omega)]
/-- a loop whose turn i changes place i alone -/
theorem lp_amap {R : Type} (L : Nat → Int32 → Ar → Option R) (e : Ar → Option R) (N : Nat) (hN : N < 2 ^ 31) (g : Nat → Int32 → Int32) (I : Ar → Prop)
    (hx : ∀ n f, I f → L (n + 1) (nI N) f = e f)
    (hs : ∀ n i f, i < N → I f → L (n + 1) (nI i) f = L n (nI (i + 1)) (upd f i (g i (f i))) ∧ I (upd f i (g i (f i)))) :
    ∀ (c i n : Nat) (f : Ar), i + c = N → c < n → I f → L n (nI i) f = e (amap i N g f) := by
  intro c
  induction c with
  | zero =>
    intro i n f h hn hI
    obtain ⟨k, rfl⟩ : ∃ k, n = k + 1 := ⟨n - 1, by omega⟩
    have hi : i = N := by omega
    subst hi
    rw [hx k f hI, amap_end]
  | succ c ih =>
    intro i n f h hn hI
    obtain ⟨k, rfl⟩ : ∃ k, n = k + 1 := ⟨n - 1, by omega⟩
    obtain ⟨h1, h2⟩ := hs k i f (by omega) hI
    rw [h1, ih (i + 1) k _ (by omega) (by omega) h2, amap_step (by omega)]
/-- a loop that gathers a value, one turn after the other -/
def gat {σ : Type} (f : Nat → σ → σ) : Nat → Nat → σ → σ
  | 0, _, s => s
  | c + 1, i, s => gat f c (i + 1) (f i s)
theorem gat_c {σ : Type} {f g : Nat → σ → σ} : ∀ (c i : Nat) (s : σ), (∀ j s, i ≤ j → j < i + c → f j s = g j s) → gat f c i s = gat g c i s
  | 0, _, _, _ => rfl
  | c + 1, i, s, h => by
    show gat f c (i + 1) (f i s) = gat g c (i + 1) (g i s)
    rw [h i s (by omega) (by omega)]
    exact gat_c c (i + 1) _ (fun j s h1 h2 => h j s (by omega) (by omega))
theorem gat_inv {σ : Type} {f : Nat → σ → σ} (I : Nat → σ → Prop) : ∀ (c i : Nat) (s : σ), I i s → (∀ j s, i ≤ j → j < i + c → I j s → I (j + 1) (f j s)) → I (i + c) (gat f c i s)
  | 0, i, s, h, _ => h
  | c + 1, i, s, h, hs => by
    have := gat_inv (f := f) I c (i + 1) (f i s) (hs i s (by omega) (by omega) h) (fun j s h1 h2 hI => hs j s (by omega) (by omega) hI)
    rw [show i + (c + 1) = i + 1 + c by omega]
    exact this
/-- two gatherings side by side -/
theorem gat_rel {σ τ : Type} {f : Nat → σ → σ} {g : Nat → τ → τ} (I : Nat → σ → τ → Prop) : ∀ (c i : Nat) (s : σ) (t : τ), I i s t → (∀ j s t, i ≤ j → j < i + c → I j s t → I (j + 1) (f j s) (g j t)) → I (i + c) (gat f c i s) (gat g c i t)
  | 0, i, s, t, h, _ => h
  | c + 1, i, s, t, h, hs => by
    have := gat_rel (f := f) (g := g) I c (i + 1) (f i s) (g i t) (hs i s t (by omega) (by omega) h) (fun j s t h1 h2 hI => hs j s t (by omega) (by omega) hI)
    rw [show i + (c + 1) = i + 1 + c by omega]
    exact this
/-- a loop with a counter and one gathered value (of any kind), its exit e -/
theorem lp_gat {R σ : Type} (L : Nat → σ → Int32 → Option R) (e : σ → Option R) (N : Nat) (f : Nat → σ → σ) (I : Nat → σ → Prop)
    (hx : ∀ n s, I N s → L (n + 1) s (nI N) = e s)
    (hs : ∀ n i s, i < N → I i s → L (n + 1) s (nI i) = L n (f i s) (nI (i + 1)) ∧ I (i + 1) (f i s)) :
    ∀ (c i n : Nat) (s : σ), i + c = N → c < n → I i s → L n s (nI i) = e (gat f c i s) := by
  intro c
  induction c with
  | zero =>
    intro i n s h hn hI
    obtain ⟨k, rfl⟩ : ∃ k, n = k + 1 := ⟨n - 1, by omega⟩
    have hi : i = N := by omega
    subst hi
    exact hx k s hI
  | succ c ih =>
    intro i n s h hn hI
    obtain ⟨k, rfl⟩ : ∃ k, n = k + 1 := ⟨n - 1, by omega⟩
    obtain ⟨h1, h2⟩ := hs k i s (by omega) hI
    rw [h1, ih (i + 1) k _ (by omega) (by omega) h2]
    rfl
theorem fu_gt (k : Nat) (h : k < 5000) : k < fu := h
theorem le_nI {k i : Nat} (hk : k < 2 ^ 31) (hi : i < 2 ^ 31) (h : k ≤ i) : nI k ≤ nI i := nI_le h hi
theorem nle_nI {k i : Nat} (hk : k < 2 ^ 31) (h : i < k) : ¬ nI k ≤ nI i := nI_ge h hk
/-! the bits of a set: by 12 places -/
def bitI (x : Int32) (k : Nat) : Int32 := (x >>> (nI k &&& 31)) &&& 1
def bitsF (x : Int32) : Int32 := gat (fun k a => a + bitI x k) 12 0 0
theorem bits_eq (x : Int32) : m_X5_bits x = some (bitsF x) := by
  refine lp_gat (fun n s v => L_X5_bits_4 x n s v) (fun s => some s) 12 (fun k a => a + bitI x k) (fun _ _ => True) (fun n s _ => rfl) (fun n i s hi _ => ⟨?_, trivial⟩) 12 0 fu 0 rfl (by decide) trivial
  show b_X5_bits_4 (L_X5_bits_4 x n) x s (nI i) = _
  unfold b_X5_bits_4
  rw [if_neg (show ¬ (12 : Int32) ≤ nI i from nle_nI (k := 12) (by decide) hi), nI_1]
  rfl
theorem all64 {P : Nat → Prop} (h : ∀ a b : Fin 64, P (64 * a.val + b.val)) : ∀ n, n < 4096 → P n := by
  intro n hn
  have := h ⟨n / 64, by omega⟩ ⟨n % 64, by omega⟩
  rw [show n = 64 * (n / 64) + n % 64 by omega]
  exact this
theorem pc_eq0 : ∀ a b : Fin 64, m_J6_bitCount_0f7a4 (nI (64 * a.val + b.val)) = bitsF (nI (64 * a.val + b.val)) := by decide +kernel
theorem pc_eq {n : Nat} (h : n < 4096) : m_J6_bitCount_0f7a4 (nI n) = bitsF (nI n) := all64 (P := fun n => m_J6_bitCount_0f7a4 (nI n) = bitsF (nI n)) pc_eq0 n h
