/-! the silent rounds before a shout -/
theorem imaxN {k x e : Nat} (hk : k < 2 ^ 30) (hx : x < 2 ^ 30) (he : e < 2 ^ 30) : imax (nI k) (nI x - nI e) = nI (if k < x - e then x - e else k) := by
  unfold imax
  by_cases h : k < x - e
  · rw [if_pos h, pk_sub (show e ≤ x by omega), if_pos ((nI_ltI (by omega) (by omega)).mpr h)]
  · rw [if_neg h, if_neg]
    rw [Int32.lt_iff_toInt_lt, pk_sub_toInt hx he, nI_toInt (by omega)]
    omega
def spN (th : Int32) (F : Nat → Nat) (j : Nat) : Prop := 0 < F j ∧ bt th j = true
theorem spN_if {th : Int32} {F : Nat → Nat} {fi : Ar} {j : Nat} (hj : j < 12) (hF : fi j = nI (F j)) (hb : F j ≤ 99) : (if fi j ≤ 0 then (0 : Int32) else if bitI th j = 1 then 1 else 0) = 0 ↔ ¬ spN th F j := by
  unfold spN
  rw [hF]
  by_cases h : F j = 0
  · rw [h, if_pos (by decide)]
    exact ⟨fun _ q => absurd q.1 (by decide), fun _ => rfl⟩
  · rw [if_neg (show ¬ nI (F j) ≤ 0 from fun q => h (by have := (nI_leI (b := 0) (by omega) (by decide)).mp q; omega))]
    by_cases h2 : bitI th j = 1
    · rw [if_pos h2]
      exact ⟨fun q => absurd q (by decide), fun q => absurd ⟨by omega, (bitI_1 th (by omega)).mp h2⟩ q⟩
    · rw [if_neg h2]
      exact ⟨fun _ q => h2 ((bitI_1 th (by omega)).mpr q.2), fun _ => rfl⟩
theorem lfN {th : Int32} {j x e : Nat} (hj : j < 12) (hx : x ≤ 99) (he : e ≤ 99) : lf th j (nI x) (nI e) = nI (if (if 0 < x ∧ bt th j = true then 1 else 0) < x - e then x - e else if 0 < x ∧ bt th j = true then 1 else 0) := by
  have h0 : (if nI x ≤ 0 then (0 : Int32) else if bitI th j = 1 then 1 else 0) = nI (if 0 < x ∧ bt th j = true then 1 else 0) := by
    by_cases h : x = 0
    · rw [h, if_pos (by decide), if_neg (fun q => absurd q.1 (by decide))]; rfl
    · rw [if_neg (show ¬ nI x ≤ 0 from fun q => h (by have := (nI_leI (b := 0) (by omega) (by decide)).mp q; omega))]
      by_cases h2 : bitI th j = 1
      · rw [if_pos h2, if_pos ⟨by omega, (bitI_1 th (by omega)).mp h2⟩]; rfl
      · rw [if_neg h2, if_neg (fun q => h2 ((bitI_1 th (by omega)).mpr q.2))]; rfl
  unfold lf
  rw [h0]
  refine imaxN ?_ (by omega) (by omega)
  split <;> decide
theorem lf_z {th : Int32} {F : Nat → Nat} {j e : Nat} (hj : j < 12) (hx : F j ≤ 99) (he : e ≤ 99) : lf th j (nI (F j)) (nI e) = 0 ↔ ¬ spN th F j ∧ F j ≤ e := by
  rw [lfN hj hx he, show (0 : Int32) = nI 0 from rfl]
  unfold spN
  by_cases h : 0 < F j ∧ bt th j = true
  · rw [if_pos h, nI_eq (by split <;> omega) (by decide)]
    constructor
    · intro q
      split at q <;> omega
    · exact fun q => absurd h q.1
  · rw [if_neg h, nI_eq (by split <;> omega) (by decide)]
    constructor
    · intro q
      refine ⟨h, ?_⟩
      split at q <;> omega
    · intro q
      rw [if_neg (by omega)]
/-- so much noise brings the stretch of g from p down -/
def okN (th : Int32) (F : Nat → Nat) (g p h : Nat) : Prop := ∀ q, q < g → ¬ spN th F ((p + q) % 12) ∧ F ((p + q) % 12) ≤ h
theorem x3_noise {th : Int32} {F : Nat → Nat} {fi : Ar} (hF : ∀ j, j < 12 → fi j = nI (F j)) (hb : ∀ j, j < 12 → F j ≤ 99) {g p : Nat} (hg : g ≤ 12) (hp : p < 12) :
    ∀ (c i n m : Nat), i + c = g → c < n → m ≤ 99 → (∀ q, q < i → ¬ spN th F ((p + q) % 12)) → (∀ h, m ≤ h ↔ ∀ q, q < i → F ((p + q) % 12) ≤ h) →
    ∃ r, L_X3_noiseFor_5 (nI p) (nI g) th fi n (nI m) (nI i) = some r ∧ ((r = -6 ∧ ∀ h, ¬ okN th F g p h) ∨ ∃ M : Nat, M ≤ 99 ∧ r = nI M ∧ ∀ h, okN th F g p h ↔ M ≤ h) := by
  intro c
  induction c with
  | zero =>
    intro i n m h1 hn hm hs hh
    obtain ⟨n, rfl⟩ : ∃ w, n = w + 1 := ⟨n - 1, by omega⟩
    have e : i = g := by omega
    refine ⟨nI m, ?_, Or.inr ⟨m, hm, rfl, fun h => ?_⟩⟩
    · show b_X3_noiseFor_5 (L_X3_noiseFor_5 (nI p) (nI g) th fi n) (nI p) (nI g) th fi (nI m) (nI i) = _
      unfold b_X3_noiseFor_5
      rw [e, if_pos (Int32.le_refl _)]
    · rw [hh h]
      subst e
      exact ⟨fun q k hk => (q k hk).2, fun q k hk => ⟨hs k hk, q k hk⟩⟩
  | succ c ih =>
    intro i n m h1 hn hm hs hh
    obtain ⟨n, rfl⟩ : ∃ w, n = w + 1 := ⟨n - 1, by omega⟩
    have hj : (p + i) % 12 < 12 := Nat.mod_lt _ (by decide)
    have hbody : L_X3_noiseFor_5 (nI p) (nI g) th fi (n + 1) (nI m) (nI i) = b_X3_noiseFor_5 (L_X3_noiseFor_5 (nI p) (nI g) th fi n) (nI p) (nI g) th fi (nI m) (nI i) := rfl
    rw [hbody]
    unfold b_X3_noiseFor_5
    rw [if_neg (nle_nI (by omega) (show i < g by omega)), rem12 p i (by omega), spared_eq hj, ob1_s]
    by_cases hsp : spN th F ((p + i) % 12)
    · rw [if_neg (fun q => ((spN_if hj (hF _ hj) (hb _ hj)).mp q) hsp)]
      exact ⟨-6, rfl, Or.inl ⟨rfl, fun h q => (q i (by omega)).1 hsp⟩⟩
    · rw [if_pos ((spN_if hj (hF _ hj) (hb _ hj)).mpr hsp), inb_nI hj (by decide), gd_t, nI_clamp (by omega), hF _ hj, nI_1]
      have e : imax (nI m) (nI (F ((p + i) % 12))) = nI (if m < F ((p + i) % 12) then F ((p + i) % 12) else m) := by
        have := imaxN (k := m) (x := F ((p + i) % 12)) (e := 0) (by omega) (by have := hb _ hj; omega) (by decide)
        rw [show nI (F ((p + i) % 12)) - nI 0 = nI (F ((p + i) % 12)) from Int32.sub_zero _, Nat.sub_zero] at this
        exact this
      rw [e]
      have hb' := hb _ hj
      refine ih (i + 1) n _ (by omega) (by omega) ?_ ?_ ?_
      · split <;> omega
      · intro q hq
        by_cases e2 : q = i
        · rw [e2]; exact hsp
        · exact hs q (by omega)
      · intro h
        have e3 : ((if m < F ((p + i) % 12) then F ((p + i) % 12) else m) ≤ h) ↔ (m ≤ h ∧ F ((p + i) % 12) ≤ h) := by
          split <;> omega
        rw [e3, hh h]
        constructor
        · intro q k hk
          by_cases e2 : k = i
          · rw [e2]; exact q.2
          · exact q.1 k (by omega)
        · exact fun q => ⟨fun k hk => q k (by omega), q i (by omega)⟩
theorem x3_silent {th : Int32} {F : Nat → Nat} {fi : Ar} (hF : ∀ j, j < 12 → fi j = nI (F j)) (hb : ∀ j, j < 12 → F j ≤ 99) {g H : Nat} (hg : g ≤ 12) (hH : H ≤ 99) :
    ∀ (c p n : Nat) (v : Int32), p + c = 12 → c < n → ((v = -6 ∧ ∀ p', p' < p → ∀ h, ¬ okN th F g p' h) ∨ ∃ R : Nat, R ≤ 99 ∧ v = nI R ∧ ∀ r, (∃ p', p' < p ∧ okN th F g p' (H + r)) ↔ R ≤ r) →
    ∃ v2, L_X3_silentRoundsFor_5 (nI g) th (nI H) fi n v (nI p) = some v2 ∧ ((v2 = -6 ∧ ∀ p', p' < 12 → ∀ h, ¬ okN th F g p' h) ∨ ∃ R : Nat, R ≤ 99 ∧ v2 = nI R ∧ ∀ r, (∃ p', p' < 12 ∧ okN th F g p' (H + r)) ↔ R ≤ r) := by
  intro c
  induction c with
  | zero =>
    intro p n v h1 hn hI
    obtain ⟨n, rfl⟩ : ∃ w, n = w + 1 := ⟨n - 1, by omega⟩
    have e : p = 12 := by omega
    subst e
    refine ⟨v, ?_, hI⟩
    show b_X3_silentRoundsFor_5 (L_X3_silentRoundsFor_5 (nI g) th (nI H) fi n) (nI g) th (nI H) fi v (nI 12) = _
    unfold b_X3_silentRoundsFor_5
    rw [if_pos (show (12 : Int32) ≤ nI 12 from Int32.le_refl _)]
  | succ c ih =>
    intro p n v h1 hn hI
    obtain ⟨n, rfl⟩ : ∃ w, n = w + 1 := ⟨n - 1, by omega⟩
    have hbody : L_X3_silentRoundsFor_5 (nI g) th (nI H) fi (n + 1) v (nI p) = b_X3_silentRoundsFor_5 (L_X3_silentRoundsFor_5 (nI g) th (nI H) fi n) (nI g) th (nI H) fi v (nI p) := rfl
    rw [hbody]
    obtain ⟨r, hr, hres⟩ := x3_noise (th := th) hF hb hg (show p < 12 by omega) g 0 fu 0 (by omega) (by show g < 5000; omega) (by decide) (fun q hq => by omega) (fun h => ⟨fun _ q hq => by omega, fun _ => Nat.zero_le _⟩)
    have hr' : m_X3_noiseFor (nI p) (nI g) th fi = some r := hr
    unfold b_X3_silentRoundsFor_5
    rw [if_neg (show ¬ (12 : Int32) ≤ nI p from nle_nI (k := 12) (by decide) (by omega)), hr', ob1_s, nI_1]
    rcases hres with ⟨rfl, hno⟩ | ⟨M, hM, rfl, hok⟩
    · rw [if_pos rfl]
      refine ih (p + 1) n v (by omega) (by omega) ?_
      rcases hI with ⟨h3, h4⟩ | ⟨R, h3, h4, h5⟩
      · refine Or.inl ⟨h3, fun p' hp' => ?_⟩
        by_cases e : p' = p
        · rw [e]; exact hno
        · exact h4 p' (by omega)
      · refine Or.inr ⟨R, h3, h4, fun r => ?_⟩
        rw [← h5 r]
        constructor
        · rintro ⟨p', h6, h7⟩
          by_cases e : p' = p
          · rw [e] at h7; exact absurd h7 (hno _)
          · exact ⟨p', by omega, h7⟩
        · rintro ⟨p', h6, h7⟩
          exact ⟨p', by omega, h7⟩
    · have e6 : ∀ {k : Nat}, k ≤ 99 → ¬ nI k = -6 := fun {k} hk q => by
        have := nI_pos' (show k < 2 ^ 31 by omega)
        rw [q] at this
        exact absurd this (by decide)
      have em : imax 0 (nI M - nI H) = nI (M - H) := by
        have := imaxN (k := 0) (x := M) (e := H) (by decide) (by omega) (by omega)
        rw [show nI 0 = 0 from rfl] at this
        rw [this]
        congr 1
        split <;> omega
      rw [if_neg (e6 hM), em]
      rcases hI with ⟨h3, h4⟩ | ⟨R, h3, h4, h5⟩
      · rw [if_pos h3]
        refine ih (p + 1) n _ (by omega) (by omega) (Or.inr ⟨M - H, by omega, rfl, fun r => ?_⟩)
        constructor
        · rintro ⟨p', h6, h7⟩
          by_cases e : p' = p
          · rw [e] at h7
            have := (hok _).mp h7
            omega
          · exact absurd h7 (h4 p' (by omega) _)
        · exact fun q => ⟨p, by omega, (hok _).mpr (by omega)⟩
      · rw [h4, if_neg (e6 h3)]
        by_cases hle : R ≤ M - H
        · rw [if_pos (nI_le hle (by omega))]
          refine ih (p + 1) n _ (by omega) (by omega) (Or.inr ⟨R, h3, rfl, fun r => ?_⟩)
          rw [← h5 r]
          constructor
          · rintro ⟨p', h6, h7⟩
            by_cases e : p' = p
            · rw [e] at h7
              have := (hok _).mp h7
              exact (h5 r).mpr (by omega)
            · exact ⟨p', by omega, h7⟩
          · rintro ⟨p', h6, h7⟩
            exact ⟨p', by omega, h7⟩
        · rw [if_neg (nI_ge (by omega) (by omega))]
          refine ih (p + 1) n _ (by omega) (by omega) (Or.inr ⟨M - H, by omega, rfl, fun r => ?_⟩)
          constructor
          · rintro ⟨p', h6, h7⟩
            by_cases e : p' = p
            · rw [e] at h7
              have := (hok _).mp h7
              omega
            · have := (h5 r).mp ⟨p', by omega, h7⟩
              omega
          · exact fun q => ⟨p, by omega, (hok _).mpr (by omega)⟩
theorem sub_ok {g : Nat} (hg : g ≤ 12) (p : Nat) (d : Int32) : strF p g &&& (d ^^^ (-1)) = 0 ↔ ∀ q, q < g → bt d ((p + q) % 12) = true := by
  constructor
  · intro h q hq
    have hm : (p + q) % 12 < 12 := Nat.mod_lt _ (by decide)
    have h2 : bt (strF p g &&& (d ^^^ (-1))) ((p + q) % 12) = false := by rw [h]; exact b_0 _
    rw [b_and, b_not _ (by omega), (bt_str p g _).mpr ⟨q, hq, rfl⟩, Bool.true_and] at h2
    cases hb : bt d ((p + q) % 12)
    · rw [hb] at h2; cases h2
    · rfl
  · intro h
    apply b_ext
    intro i hi
    rw [b_0, b_and, b_not _ hi]
    cases hb : bt (strF p g) i
    · rfl
    · obtain ⟨q, hq, e⟩ := (bt_str p g i).mp hb
      rw [← e, h q hq]
      rfl
theorem x5_sh72 (K : Int32 → Ar → Option (Int32 × Ar)) {g : Nat} (hg : g ≤ 12) (v2 d : Int32) (nw : Ar) : ∀ (c p n : Nat), p + c = 12 → c < n →
    ((∃ p', p ≤ p' ∧ p' < 12 ∧ ∀ q, q < g → bt d ((p' + q) % 12) = true) → L_X5_shout_72 K (nI g) v2 d nw n (nI p) = some (v2, nw)) ∧
    ((∀ p', p ≤ p' → p' < 12 → ¬ ∀ q, q < g → bt d ((p' + q) % 12) = true) → L_X5_shout_72 K (nI g) v2 d nw n (nI p) = K (v2 + 1) nw) := by
  intro c
  induction c with
  | zero =>
    intro p n h1 hn
    obtain ⟨n, rfl⟩ : ∃ w, n = w + 1 := ⟨n - 1, by omega⟩
    have e : p = 12 := by omega
    subst e
    refine ⟨fun ⟨p', h3, h4, _⟩ => by omega, fun _ => ?_⟩
    show b_X5_shout_72 K (L_X5_shout_72 K (nI g) v2 d nw n) (nI g) v2 d nw (nI 12) = _
    unfold b_X5_shout_72
    rw [if_pos (show (12 : Int32) ≤ nI 12 from Int32.le_refl _)]
  | succ c ih =>
    intro p n h1 hn
    obtain ⟨n, rfl⟩ : ∃ w, n = w + 1 := ⟨n - 1, by omega⟩
    have hbody : L_X5_shout_72 K (nI g) v2 d nw (n + 1) (nI p) = b_X5_shout_72 K (L_X5_shout_72 K (nI g) v2 d nw n) (nI g) v2 d nw (nI p) := rfl
    rw [hbody]
    unfold b_X5_shout_72
    rw [if_neg (show ¬ (12 : Int32) ≤ nI p from nle_nI (k := 12) (by decide) (by omega)), x5_str (by omega) hg, ob1_s, nI_1]
    obtain ⟨ih1, ih2⟩ := ih (p + 1) n (by omega) (by omega)
    by_cases h : strF p g &&& (d ^^^ (-1)) = 0
    · rw [if_pos h]
      have h' := (sub_ok hg p d).mp h
      exact ⟨fun _ => rfl, fun q => absurd h' (q p (Nat.le_refl _) (by omega))⟩
    · rw [if_neg h]
      have h' : ¬ ∀ q, q < g → bt d ((p + q) % 12) = true := fun q => h ((sub_ok hg p d).mpr q)
      refine ⟨fun ⟨p', h3, h4, h5⟩ => ih1 ?_, fun q => ih2 (fun p' h3 h4 => q p' (by omega) h4)⟩
      by_cases e : p' = p
      · rw [e] at h5; exact absurd h5 h'
      · exact ⟨p', by omega, h4, h5⟩
theorem x5_sh15 {th : Int32} {F : Nat → Nat} {bk : Ar} (hF : ∀ j, j < 12 → bk j = nI (F j)) (hb : ∀ j, j < 12 → F j ≤ 99) {g H : Nat} (hg : g ≤ 12) (hH : H ≤ 99) (h12 : bk 12 = nI H) {v : Int32}
    (hv : (v = -6 ∧ ∀ p', p' < 12 → ∀ h, ¬ okN th F g p' h) ∨ ∃ R : Nat, R ≤ 99 ∧ v = nI R ∧ ∀ r, (∃ p', p' < 12 ∧ okN th F g p' (H + r)) ↔ R ≤ r) :
    ∀ (c r n : Nat) (nw : Ar), r + c = 100 → c < n → (v = -6 ∨ ∃ R : Nat, v = nI R ∧ R ≤ 99 ∧ r ≤ R) → ∃ nw2, L_X5_shout_15 (nI g) th bk n (nI r) nw = some (v, nw2) := by
  intro c
  induction c with
  | zero =>
    intro r n nw h1 hn hr
    obtain ⟨n, rfl⟩ : ∃ w, n = w + 1 := ⟨n - 1, by omega⟩
    have e : r = 100 := by omega
    subst e
    have e2 : v = -6 := by
      rcases hr with h | ⟨R, _, h3, h4⟩
      · exact h
      · omega
    refine ⟨nw, ?_⟩
    show b_X5_shout_15 (L_X5_shout_15 (nI g) th bk n) (nI g) th bk (nI 100) nw = _
    unfold b_X5_shout_15
    rw [if_pos (show (100 : Int32) ≤ nI 100 from Int32.le_refl _), e2]
  | succ c ih =>
    intro r n nw h1 hn hr
    obtain ⟨n, rfl⟩ : ∃ w, n = w + 1 := ⟨n - 1, by omega⟩
    have hbody : L_X5_shout_15 (nI g) th bk (n + 1) (nI r) nw = b_X5_shout_15 (L_X5_shout_15 (nI g) th bk n) (nI g) th bk (nI r) nw := rfl
    rw [hbody]
    have hj : ∀ e : Nat, e ≤ 99 → (∀ x, x ≤ 99 → (x ≤ e ↔ x ≤ H + r)) → ∃ nw2, j_X5_shout_59 (L_X5_shout_15 (nI g) th bk n) (nI g) (nI r) (nI e) 12 th (amap 0 15 (fun j _ => bk j) nw) = some (v, nw2) := by
      intro e he hx
      unfold j_X5_shout_59
      rw [show inb 12 15 = true from rfl, gd_t, x5_cry, ob1_s, x5_down, ob1_s, show Int32.toNatClampNeg 12 = 12 from rfl, upd_at]
      generalize hnw : upd (amap 0 12 (fun j x => lf th j x (nI e)) (upd (amap 0 15 (fun j _ => bk j) nw) 12 (nI e))) 12 0 = nw'
      have hd : ∀ j, j < 12 → (bt (dbF nw') j = true ↔ ¬ spN th F j ∧ F j ≤ H + r) := by
        intro j hj
        rw [bt_dbF, decide_eq_true hj, Bool.true_and, decide_eq_true_eq, ← hnw, upd_ne (by omega), amap_in (Nat.zero_le _) hj, upd_ne (by omega), amap_in (Nat.zero_le _) (by omega), hF j hj, lf_z hj (hb j hj) he, hx _ (hb j hj)]
      have hall : ∀ p', (∀ q, q < g → bt (dbF nw') ((p' + q) % 12) = true) ↔ okN th F g p' (H + r) := fun p' =>
        ⟨fun h q hq => (hd _ (Nat.mod_lt _ (by decide))).mp (h q hq), fun h q hq => (hd _ (Nat.mod_lt _ (by decide))).mpr (h q hq)⟩
      obtain ⟨h72a, h72b⟩ := x5_sh72 (L_X5_shout_15 (nI g) th bk n) hg (nI r) (dbF nw') nw' 12 0 fu rfl (by decide)
      have hgo : (∀ p', p' < 12 → ¬ okN th F g p' (H + r)) → L_X5_shout_72 (L_X5_shout_15 (nI g) th bk n) (nI g) (nI r) (dbF nw') nw' fu 0 = L_X5_shout_15 (nI g) th bk n (nI (r + 1)) nw' := by
        intro h
        refine (h72b (fun p' _ h4 => by rw [hall p']; exact h p' h4)).trans ?_
        rw [nI_1]
      rcases hv with ⟨rfl, hno⟩ | ⟨R, hR, rfl, hiff⟩
      · rw [hgo (fun p' hp' => hno p' hp' _)]
        exact ih (r + 1) n nw' (by omega) (by omega) (Or.inl rfl)
      · have hrR : r ≤ R := by
          rcases hr with h | ⟨R', h3, h4, h5⟩
          · exfalso
            have := nI_pos' (show R < 2 ^ 31 by omega)
            rw [h] at this
            exact absurd this (by decide)
          · rw [nI_eq (by omega) (by omega)] at h3
            omega
        by_cases e : R = r
        · obtain ⟨p', h3, h4⟩ := (hiff r).mpr (by omega)
          refine ⟨nw', ?_⟩
          rw [e]
          exact h72a ⟨p', Nat.zero_le _, h3, (hall p').mpr h4⟩
        · rw [hgo (fun p' hp' q => by have := (hiff r).mp ⟨p', hp', q⟩; omega)]
          exact ih (r + 1) n nw' (by omega) (by omega) (Or.inr ⟨R, rfl, hR, by omega⟩)
    unfold b_X5_shout_15
    rw [if_neg (show ¬ (100 : Int32) ≤ nI r from nle_nI (k := 100) (by decide) (by omega)), x5_asNow, ob1_s, amap_in (Nat.zero_le _) (show 12 < 15 by decide), h12, nI_add]
    by_cases h99 : H + r ≤ 99
    · rw [if_pos (show nI (H + r) ≤ 99 from nI_le (b := 99) h99 (by decide))]
      exact hj _ h99 (fun x _ => Iff.rfl)
    · rw [if_neg (show ¬ nI (H + r) ≤ 99 from nI_ge (b := H + r) (a := 99) (by omega) (by omega))]
      exact hj 99 (by decide) (fun x hx => by omega)
theorem Gf_N {fi : Ar} (h : Gf fi) : ∃ F : Nat → Nat, ∀ j, j < 12 → fi j = nI (F j) ∧ F j ≤ 99 := by
  refine ⟨fun j => (fi j).toNatClampNeg, fun j hj => ?_⟩
  obtain ⟨k, hk, e⟩ := le_lit (n := 99) (by decide) (h j hj)
  show fi j = nI (fi j).toNatClampNeg ∧ (fi j).toNatClampNeg ≤ 99
  rw [e, nI_clamp (by omega)]
  exact ⟨rfl, hk⟩
set_option maxHeartbeats 4000000 in
theorem p_shout (v1 : Int32) (ct : Int32) (sg : Ar) (si : Int32) (ft : Int32) (th : Int32) (he : Int32) (ma : Int32) (ro : Int32) (fi : Ar) (to : Ar) (ne : Ar) (ac : Int32) (wy : Int32) (fa : Int32) (fp : Int32) (thw : Int32) (hew : Int32) (maw : Int32) (row : Int32) (fiw : Ar) (tow : Ar) (zth : Int32) (zsi : Int32) (zsn : Int32) (zre : Int32) (zac : Int32) (zfa : Int32) (zfw : Int32) (zbk : Ar) (znw : Ar) (zto : Ar) (zne : Ar) (zst : Ar) (zpd : Ar) (zcn : Ar) (zig : Ar) (zik : Ar) (hR : CR ct sg si ft th he ma ro fi to ne zth zsi zsn zbk zto zne zst zpd) : ∃ (r : Int32) (znw2 : Ar), m_X4_shout v1 th he fi = some r ∧ m_X5_shout v1 zth zbk znw = some (r, znw2) ∧ CR ct sg si ft th he ma ro fi to ne zth zsi zsn zbk zto zne zst zpd := by
  obtain ⟨hp, hw, hm, hs⟩ := hR
  obtain ⟨hW, hG, hto, hGt, rfl, hth⟩ := id hw
  unfold m_X4_shout m_X5_shout
  by_cases h1 : 1 ≤ v1 ∧ v1 ≤ 12
  · obtain ⟨g, hg, rfl⟩ := le_lit (n := 12) (by decide) ⟨Int32.le_trans (by decide) h1.1, h1.2⟩
    obtain ⟨H, hH, rfl⟩ := le_lit (n := 99) (by decide) hG.2.1
    obtain ⟨F, hF⟩ := Gf_N hG.1
    rw [iso_if_p h1, in_if_p h1]
    obtain ⟨v, hv, hres⟩ := x3_silent (th := zth) (fun j hj => (hF j hj).1) (fun j hj => (hF j hj).2) hg hH 12 0 fu (-6) rfl (by decide) (Or.inl ⟨rfl, fun p' h => by omega⟩)
    have hv' : m_X3_silentRoundsFor (nI g) zth (nI H) fi = some v := hv
    obtain ⟨nw2, h2⟩ := x5_sh15 (th := zth) (F := F) (bk := zbk) (fun j hj => by rw [hW.1 j hj]; exact (hF j hj).1) (fun j hj => (hF j hj).2) hg hH hW.2.1 hres 100 0 fu znw rfl (by decide) (by
      rcases hres with h | ⟨R, h3, h4, _⟩
      · exact Or.inl h.1
      · exact Or.inr ⟨R, h4, h3, Nat.zero_le _⟩)
    exact ⟨v, nw2, by rw [hv']; rfl, h2, hp, hw, hm, hs⟩
  · rw [iso_if_n h1, in_if_n h1]
    exact ⟨_, _, rfl, rfl, hp, hw, hm, hs⟩
