/-! the least of several: the first that is least -/
def amS (f : Nat → Int32) (p : Nat) (s : Int32 × Int32) : Int32 × Int32 := if s.2 ≤ f p then s else (nI p, f p)
def amI (f : Nat → Int32) (N p : Nat) (s : Int32 × Int32) : Prop := ∃ q : Nat, q < p ∧ q < N ∧ s = (nI q, f q)
theorem amS_I {f : Nat → Int32} {N p : Nat} {s : Int32 × Int32} (hp : p < N) (h : amI f N p s) : amI f N (p + 1) (amS f p s) := by
  unfold amS
  obtain ⟨q, h1, h2, h3⟩ := h
  split
  · exact ⟨q, by omega, h2, h3⟩
  · exact ⟨p, by omega, hp, rfl⟩
theorem am_I (f : Nat → Int32) (N : Nat) (hN : 0 < N) : amI f N N (gat (amS f) (N - 1) 1 (nI 0, f 0)) := by
  have := gat_inv (amI f N) (N - 1) 1 (nI 0, f 0) ⟨0, by decide, hN, rfl⟩ (fun j s h1 h2 hI => amS_I (by omega) hI)
  rw [show 1 + (N - 1) = N by omega] at this
  exact this
/-! the weakest stretch -/
def sumF (fi : Ar) (g f : Nat) : Int32 := gat (fun i a => a + fi ((f + i) % 12)) g 0 0
theorem rem12 (f i : Nat) (h : f + i < 2 ^ 31) : irem (nI f + nI i) 12 = nI ((f + i) % 12) := by
  rw [nI_add]
  exact pk_rem (d := 12) h (by decide) (by decide)
theorem x3_ft {fi : Ar} {g f : Nat} (hg : g ≤ 12) (hf : f < 12) : m_X3_firmTogether (nI f) (nI g) fi = some (sumF fi g f) := by
  refine lp_gat (fun n s v => L_X3_firmTogether_5 (nI f) (nI g) fi n s v) (fun s => some s) g (fun i a => a + fi ((f + i) % 12)) (fun _ _ => True) (fun n s _ => ?_) (fun n i s hi _ => ⟨?_, trivial⟩) g 0 fu 0 (by omega) (by show g < 5000; omega) trivial
  · show b_X3_firmTogether_5 (L_X3_firmTogether_5 (nI f) (nI g) fi n) (nI f) (nI g) fi s (nI g) = _
    unfold b_X3_firmTogether_5
    rw [if_pos (Int32.le_refl _)]
  · show b_X3_firmTogether_5 (L_X3_firmTogether_5 (nI f) (nI g) fi n) (nI f) (nI g) fi s (nI i) = _
    unfold b_X3_firmTogether_5
    have hm : (f + i) % 12 < 12 := Nat.mod_lt _ (by decide)
    rw [if_neg (nle_nI (by omega) hi), rem12 f i (by omega), inb_nI hm (by decide), gd_t, nI_clamp (by omega), nI_1]
theorem sumF_rg {fi : Ar} (hf : Gf fi) {g : Nat} (hg : g ≤ 12) (f : Nat) : ∃ S : Nat, S ≤ 1188 ∧ sumF fi g f = nI S := by
  have h := gat_inv (f := fun i (a : Int32) => a + fi ((f + i) % 12)) (fun i (a : Int32) => ∃ S : Nat, S ≤ 99 * i ∧ a = nI S) g 0 0 ⟨0, by decide, rfl⟩ (fun j s _ _ hI => by
    obtain ⟨S, hS, rfl⟩ := hI
    obtain ⟨x, hx, ex⟩ := le_lit (n := 99) (by decide) (hf ((f + j) % 12) (Nat.mod_lt _ (by decide)))
    refine ⟨S + x, by omega, ?_⟩
    show nI S + fi ((f + j) % 12) = _
    rw [ex, nI_add])
  obtain ⟨S, hS, e⟩ := h
  exact ⟨S, by omega, e⟩
theorem x3_ws {fi : Ar} {g : Nat} (hg : g ≤ 12) : m_X3_weakestStretch (nI g) fi = some (gat (amS (sumF fi g)) 11 1 (nI 0, sumF fi g 0)).1 := by
  unfold m_X3_weakestStretch
  rw [show (0 : Int32) = nI 0 from rfl, x3_ft hg (by decide), ob1_s]
  refine lp_gat (fun n (s : Int32 × Int32) v => L_X3_weakestStretch_12 (nI g) fi n s.1 s.2 v) (fun s => some s.1) 12 (amS (sumF fi g)) (fun _ _ => True) (fun n s _ => rfl) (fun n i s hi _ => ⟨?_, trivial⟩) 11 1 fu (nI 0, sumF fi g 0) rfl (by decide) trivial
  show b_X3_weakestStretch_12 (L_X3_weakestStretch_12 (nI g) fi n) (nI g) fi s.1 s.2 (nI i) = _
  unfold b_X3_weakestStretch_12 amS
  rw [if_neg (show ¬ (12 : Int32) ≤ nI i from nle_nI (k := 12) (by decide) hi), x3_ft hg hi, ob1_s, nI_1]
  by_cases h : s.2 ≤ sumF fi g i
  · rw [if_pos h, if_pos h]
  · rw [if_neg h, if_neg h]
theorem x5_w44 {fi bk : Ar} (hb : ∀ i, i < 12 → bk i = fi i) {g p : Nat} (hg : g ≤ 12) (hp : p < 12) (K : Int32 → Int32 → Int32 → Option Int32) (s : Int32 × Int32) : L_X5_weakest_44 K (nI g) s.1 s.2 (nI p) bk fu 0 0 = K (amS (sumF fi g) p s).1 (amS (sumF fi g) p s).2 (nI (p + 1)) := by
  refine lp_gat (fun n a v => L_X5_weakest_44 K (nI g) s.1 s.2 (nI p) bk n a v) (fun a => K (if s.2 ≤ a then s else (nI p, a)).1 (if s.2 ≤ a then s else (nI p, a)).2 (nI (p + 1))) g (fun i a => a + fi ((p + i) % 12)) (fun _ _ => True) (fun n a _ => ?_) (fun n i a hi _ => ⟨?_, trivial⟩) g 0 fu 0 (by omega) (by show g < 5000; omega) trivial
  · show b_X5_weakest_44 K (L_X5_weakest_44 K (nI g) s.1 s.2 (nI p) bk n) (nI g) s.1 s.2 (nI p) bk a (nI g) = _
    unfold b_X5_weakest_44 j_X5_weakest_87
    rw [if_pos (Int32.le_refl _), nI_1]
    by_cases h : s.2 ≤ a
    · simp only [if_pos h]
    · simp only [if_neg h]
  · show b_X5_weakest_44 K (L_X5_weakest_44 K (nI g) s.1 s.2 (nI p) bk n) (nI g) s.1 s.2 (nI p) bk a (nI i) = _
    unfold b_X5_weakest_44
    have hm : (p + i) % 12 < 12 := Nat.mod_lt _ (by decide)
    rw [if_neg (nle_nI (by omega) hi), rem12 p i (by omega), inb_nI (show (p + i) % 12 < 15 by omega) (by decide), gd_t, nI_clamp (by omega), nI_1, hb _ hm]
theorem x5_wk {fi bk : Ar} (hf : Gf fi) (hb : ∀ i, i < 12 → bk i = fi i) {g : Nat} (hg : g ≤ 12) (v2 : Int32) : L_X5_weakest_31 (nI g) v2 bk fu 0 1000000 0 = (fun s : Int32 × Int32 => if v2 = 0 then some s.1 else some s.2) (gat (amS (sumF fi g)) 11 1 (nI 0, sumF fi g 0)) := by
  have h := lp_gat (fun n (s : Int32 × Int32) v => L_X5_weakest_31 (nI g) v2 bk n s.1 s.2 v) (fun s => if v2 = 0 then some s.1 else some s.2) 12 (amS (sumF fi g)) (fun _ _ => True) (fun n s _ => rfl) (fun n i s hi _ => ⟨by
    show b_X5_weakest_31 (L_X5_weakest_31 (nI g) v2 bk n) (nI g) v2 bk s.1 s.2 (nI i) = _
    unfold b_X5_weakest_31
    rw [if_neg (show ¬ (12 : Int32) ≤ nI i from nle_nI (k := 12) (by decide) hi), x5_w44 hb hg hi], trivial⟩) 12 0 fu (0, 1000000) rfl (by decide) trivial
  refine Eq.trans h ?_
  have e : amS (sumF fi g) 0 (0, 1000000) = (nI 0, sumF fi g 0) := by
    obtain ⟨S, hS, es⟩ := sumF_rg hf hg 0
    unfold amS
    rw [if_neg]
    show ¬ (1000000 : Int32) ≤ sumF fi g 0
    rw [es]
    exact nle_nI (k := 1000000) (by decide) (by omega)
  show (fun s : Int32 × Int32 => if v2 = 0 then some s.1 else some s.2) (gat (amS (sumF fi g)) 11 1 (amS (sumF fi g) 0 (0, 1000000))) = _
  rw [e]
set_option maxHeartbeats 4000000 in
theorem p_weakest (v1 : Int32) (v2 : Int32) (ct : Int32) (sg : Ar) (si : Int32) (ft : Int32) (th : Int32) (he : Int32) (ma : Int32) (ro : Int32) (fi : Ar) (to : Ar) (ne : Ar) (ac : Int32) (wy : Int32) (fa : Int32) (fp : Int32) (thw : Int32) (hew : Int32) (maw : Int32) (row : Int32) (fiw : Ar) (tow : Ar) (zth : Int32) (zsi : Int32) (zsn : Int32) (zre : Int32) (zac : Int32) (zfa : Int32) (zfw : Int32) (zbk : Ar) (znw : Ar) (zto : Ar) (zne : Ar) (zst : Ar) (zpd : Ar) (zcn : Ar) (zig : Ar) (zik : Ar) (hR : CR ct sg si ft th he ma ro fi to ne zth zsi zsn zbk zto zne zst zpd) : ∃ (r : Int32), m_X4_weakest v1 v2 fi = some r ∧ m_X5_weakest v1 v2 zbk = some r ∧ CR ct sg si ft th he ma ro fi to ne zth zsi zsn zbk zto zne zst zpd := by
  suffices h : ∃ r, m_X4_weakest v1 v2 fi = some r ∧ m_X5_weakest v1 v2 zbk = some r by
    obtain ⟨r, a, b⟩ := h
    exact ⟨r, a, b, hR⟩
  obtain ⟨hp, ⟨⟨hb, -⟩, ⟨gf, -⟩, -⟩, -⟩ := hR
  unfold m_X4_weakest m_X5_weakest
  by_cases h1 : 1 ≤ v1 ∧ v1 ≤ 12
  · by_cases h2 : 0 ≤ v2 ∧ v2 ≤ 1
    · obtain ⟨g, hg, rfl⟩ := le_lit (n := 12) (by decide) ⟨Int32.le_trans (by decide) h1.1, h1.2⟩
      rw [iso_if_p h1, iso_if_p h2, in_if_p h1, in_if_p h2, x3_ws hg, ob1_s, x5_wk gf hb hg]
      obtain ⟨q, -, hq, e⟩ := am_I (sumF fi g) 12 (by decide)
      rw [show gat (amS (sumF fi g)) (12 - 1) 1 (nI 0, sumF fi g 0) = gat (amS (sumF fi g)) 11 1 (nI 0, sumF fi g 0) from rfl] at e
      rw [e, x3_ft hg hq, ob1_s]
      by_cases c : v2 = 0
      · simp only [if_pos c]; exact ⟨_, rfl, rfl⟩
      · simp only [if_neg c]; exact ⟨_, rfl, rfl⟩
    · rw [iso_if_p h1, iso_if_n h2, in_if_p h1, in_if_n h2]; exact ⟨_, rfl, rfl⟩
  · rw [iso_if_n h1, in_if_n h1]; exact ⟨_, rfl, rfl⟩
/-! the tone to blow next -/
theorem gat_split {σ : Type} (f : Nat → σ → σ) : ∀ (a b i : Nat) (s : σ), gat f (a + b) i s = gat f b (i + a) (gat f a i s)
  | 0, b, i, s => by rw [Nat.zero_add, Nat.add_zero]; rfl
  | a + 1, b, i, s => by
    rw [show a + 1 + b = (a + b) + 1 by omega]
    show gat f (a + b) (i + 1) (f i s) = gat f b (i + (a + 1)) (gat f a (i + 1) (f i s))
    rw [gat_split f a b (i + 1) (f i s), show i + 1 + a = i + (a + 1) by omega]
def cntP (x : Int32) (P : Nat → Bool) : Int32 := gat (fun t a => if (bt x t && P t) = true then a + 1 else a) 10 0 0
theorem bits_cnt (x : Int32) (P : Nat → Bool) : bitsF (x &&& gor P 10) = cntP x P := by
  unfold bitsF cntP
  rw [show (12 : Nat) = 10 + 2 from rfl, gat_split]
  have h1 : ∀ t, t < 32 → bitI (x &&& gor P 10) t = if (bt x t && (decide (t < 10) && P t)) = true then 1 else 0 := by
    intro t ht
    rw [bitI_bt _ ht, b_and, bt_gor P 10 (by decide)]
  have h2 : gat (fun k a => a + bitI (x &&& gor P 10) k) 10 0 0 = gat (fun t (a : Int32) => if (bt x t && P t) = true then a + 1 else a) 10 0 0 := by
    refine gat_c 10 0 0 (fun j s _ hj => ?_)
    rw [h1 j (by omega), decide_eq_true (show j < 10 by omega), Bool.true_and]
    by_cases q : (bt x j && P j) = true
    · rw [if_pos q, if_pos q]
    · rw [if_neg q, if_neg q, Int32.add_zero]
  rw [h2]
  generalize gat (fun t (a : Int32) => if (bt x t && P t) = true then a + 1 else a) 10 0 0 = z
  show (z + bitI (x &&& gor P 10) 10) + bitI (x &&& gor P 10) 11 = z
  rw [h1 10 (by decide), h1 11 (by decide), decide_eq_false (show ¬ 10 < 10 by decide), decide_eq_false (show ¬ 11 < 10 by decide), Bool.false_and, Bool.false_and, Bool.and_false, Bool.and_false]
  show (z + 0) + 0 = z
  rw [Int32.add_zero, Int32.add_zero]
def ecP (h l : Nat) (t : Nat) : Bool := decide (m_X4_echo (nI h) (nI t) = nI l)
def wstF (x : Int32) (h : Nat) : Int32 := gat (fun l a => imax a (cntP x (ecP h l))) 3 0 0
theorem x4_mostLeft {x : Int32} (hx : smallB 10 x) (h : Nat) : m_X4_mostLeft x (nI h) = some (wstF x h) := by
  refine lp_gat (fun n s v => L_X4_mostLeft_4 x (nI h) n s v) (fun s => some s) 3 (fun l a => imax a (cntP x (ecP h l))) (fun _ _ => True) (fun n s _ => rfl) (fun n i s hi _ => ⟨?_, trivial⟩) 3 0 fu 0 rfl (by decide) trivial
  show b_X4_mostLeft_4 (L_X4_mostLeft_4 x (nI h) n) x (nI h) s (nI i) = _
  unfold b_X4_mostLeft_4
  rw [if_neg (show ¬ (2 : Int32) < nI i from nI_nlt (a := 2) (b := i) (by omega) (by decide)), x4_ta, ob1_s, nI_1]
  have e := bits_cnt x (ecP h i)
  rw [pc_small (small_up (small_and hx _) (by decide))]
  unfold ecP at e ⊢
  rw [e]
theorem cnt_rg (x : Int32) (P : Nat → Bool) : ∃ c : Nat, c ≤ 10 ∧ cntP x P = nI c := by
  have h := gat_inv (f := fun t (a : Int32) => if (bt x t && P t) = true then a + 1 else a) (fun i (a : Int32) => ∃ S : Nat, S ≤ i ∧ a = nI S) 10 0 0 ⟨0, by decide, rfl⟩ (fun j s _ _ hI => by
    obtain ⟨S, hS, rfl⟩ := hI
    by_cases q : (bt x j && P j) = true
    · exact ⟨S + 1, by omega, by rw [if_pos q, nI_1]⟩
    · exact ⟨S, by omega, by rw [if_neg q]⟩)
  exact h
theorem wst_rg (x : Int32) (h : Nat) : ∃ c : Nat, c ≤ 10 ∧ wstF x h = nI c := by
  have hh := gat_inv (f := fun l (a : Int32) => imax a (cntP x (ecP h l))) (fun _ (a : Int32) => ∃ S : Nat, S ≤ 10 ∧ a = nI S) 3 0 0 ⟨0, by decide, rfl⟩ (fun j s _ _ hI => by
    obtain ⟨c, hc, e⟩ := cnt_rg x (ecP h j)
    show ∃ S : Nat, S ≤ 10 ∧ (if s < cntP x (ecP h j) then cntP x (ecP h j) else s) = nI S
    by_cases q : s < cntP x (ecP h j)
    · rw [if_pos q]; exact ⟨c, hc, e⟩
    · rw [if_neg q]; exact hI)
  exact hh
theorem x4_bha {x : Int32} (hx : smallB 10 x) : m_X4_bestHornToAsk x = some (gat (amS (wstF x)) 9 1 (nI 0, wstF x 0)).1 := by
  unfold m_X4_bestHornToAsk
  rw [show m_X4_mostLeft x 0 = some (wstF x 0) from x4_mostLeft hx 0, ob1_s]
  refine lp_gat (fun n (s : Int32 × Int32) v => L_X4_bestHornToAsk_10 x n s.1 s.2 v) (fun s => some s.1) 10 (amS (wstF x)) (fun _ _ => True) (fun n s _ => rfl) (fun n i s hi _ => ⟨?_, trivial⟩) 9 1 fu (nI 0, wstF x 0) rfl (by decide) trivial
  show b_X4_bestHornToAsk_10 (L_X4_bestHornToAsk_10 x n) x s.1 s.2 (nI i) = _
  unfold b_X4_bestHornToAsk_10 amS
  rw [if_neg (show ¬ (10 : Int32) ≤ nI i from nle_nI (k := 10) (by decide) hi), x4_mostLeft hx, ob1_s, nI_1]
  by_cases h : s.2 ≤ wstF x i
  · rw [if_pos h, if_pos h]
  · rw [if_neg h, if_neg h]
theorem echo_N (h t : Nat) (hh : h < 10) (ht : t < 10) : ∃ q : Nat, q ≤ 2 ∧ m_X4_echo (nI h) (nI t) = nI q :=
  le_lit (n := 2) (by decide) (echo_rg (nI_rg (n := 9) (by omega) (by decide)) (nI_rg (n := 9) (by omega) (by decide)))
def cnS (x : Int32) (h t : Nat) (c : Ar) : Ar := if bitI x t = 1 then upd c (Int32.toNatClampNeg (m_X4_echo (nI h) (nI t))) (c (Int32.toNatClampNeg (m_X4_echo (nI h) (nI t))) + 1) else c
theorem x5_next67 (K : Int32 → Int32 → Int32 → Ar → Option (Int32 × Ar)) (x v3 v4 : Int32) {h : Nat} (hh : h < 10) (cn : Ar) : L_X5_next_67 K x v3 v4 (nI h) 0 fu 0 cn = L_X5_next_108 K v3 v4 (nI h) (gat (cnS x h) 10 0 cn) fu 0 0 := by
  refine lp_gat (fun n (s : Ar) v => L_X5_next_67 K x v3 v4 (nI h) 0 n v s) (fun s => L_X5_next_108 K v3 v4 (nI h) s fu 0 0) 10 (cnS x h) (fun _ _ => True) (fun n s _ => rfl) (fun n i s hi _ => ⟨?_, trivial⟩) 10 0 fu cn rfl (by decide) trivial
  show b_X5_next_67 K (L_X5_next_67 K x v3 v4 (nI h) 0 n) x v3 v4 (nI h) 0 (nI i) s = _
  obtain ⟨q, hq, e⟩ := echo_N h i hh hi
  unfold b_X5_next_67 cnS
  rw [if_neg (show ¬ (10 : Int32) ≤ nI i from nle_nI (k := 10) (by decide) hi), has_eq, shakes_echo, e, inb_nI (show q < 3 by omega) (by decide), gd_t, nI_1]
  by_cases hb : bitI x i = 1
  · rw [if_pos hb, if_pos hb, if_neg (by decide)]
  · rw [if_neg hb, if_neg hb, if_pos rfl]
theorem cn_val (x : Int32) {h : Nat} (hh : h < 10) {l : Nat} (hl : l < 3) (c0 : Ar) (hc : c0 l = 0) : gat (cnS x h) 10 0 c0 l = cntP x (ecP h l) := by
  refine gat_rel (fun _ (c : Ar) (a : Int32) => c l = a) 10 0 c0 0 hc (fun j c a _ hj hI => ?_)
  subst hI
  obtain ⟨q, hq, e⟩ := echo_N h j hh (by omega)
  unfold cnS ecP
  rw [e, nI_clamp (by omega)]
  by_cases hb : bitI x j = 1
  · rw [if_pos hb, (bitI_1 x (by omega)).mp hb, Bool.true_and]
    by_cases hq2 : q = l
    · subst hq2
      rw [upd_at, if_pos (decide_eq_true rfl)]
    · rw [upd_ne (fun w => hq2 w.symm), if_neg]
      rw [decide_eq_true_eq, nI_eq (by omega) (by omega)]
      exact hq2
  · rw [if_neg hb, (bitI_0 x (by omega)).mp ((bitI_or x (show j < 32 by omega)).resolve_right hb), Bool.false_and]
    rfl
theorem x5_next108 (K : Int32 → Int32 → Int32 → Ar → Option (Int32 × Ar)) (x : Int32) (s : Int32 × Int32) {h : Nat} (cn : Ar) (hc : ∀ l, l < 3 → cn l = cntP x (ecP h l)) : L_X5_next_108 K s.1 s.2 (nI h) cn fu 0 0 = K (amS (wstF x) h s).1 (amS (wstF x) h s).2 (nI (h + 1)) cn := by
  refine lp_gat (fun n a v => L_X5_next_108 K s.1 s.2 (nI h) cn n a v) (fun a => K (if s.2 ≤ a then s else (nI h, a)).1 (if s.2 ≤ a then s else (nI h, a)).2 (nI (h + 1)) cn) 3 (fun l a => imax a (cntP x (ecP h l))) (fun _ _ => True) (fun n a _ => ?_) (fun n i a hi _ => ⟨?_, trivial⟩) 3 0 fu 0 rfl (by decide) trivial
  · show b_X5_next_108 K (L_X5_next_108 K s.1 s.2 (nI h) cn n) s.1 s.2 (nI h) cn a (nI 3) = _
    unfold b_X5_next_108 j_X5_next_159
    rw [if_pos (show (3 : Int32) ≤ nI 3 from Int32.le_refl _), nI_1]
    by_cases q : s.2 ≤ a
    · simp only [if_pos q]
    · simp only [if_neg q]
  · show b_X5_next_108 K (L_X5_next_108 K s.1 s.2 (nI h) cn n) s.1 s.2 (nI h) cn a (nI i) = _
    unfold b_X5_next_108 imax
    rw [if_neg (show ¬ (3 : Int32) ≤ nI i from nle_nI (k := 3) (by decide) hi), inb_nI hi (by decide), gd_t, nI_clamp (by omega), nI_1, hc i hi]
    by_cases q : cntP x (ecP h i) ≤ a
    · rw [if_pos q, if_neg (Int32.not_lt.mpr q)]
    · rw [if_neg q, if_pos (Int32.not_le.mp q)]
theorem x5_next44 (K : Int32 → Int32 → Int32 → Ar → Option (Int32 × Ar)) (x v3 v4 : Int32) (h : Nat) (cn : Ar) : L_X5_next_44 K x v3 v4 (nI h) 0 fu 0 cn = L_X5_next_67 K x v3 v4 (nI h) 0 fu 0 (amap 0 3 (fun _ _ => 0) cn) := by
  refine lp_amap (fun n v f => L_X5_next_44 K x v3 v4 (nI h) 0 n v f) (fun f => L_X5_next_67 K x v3 v4 (nI h) 0 fu 0 f) 3 (by decide) (fun _ _ => 0) (fun _ => True) (fun n f _ => rfl) (fun n i f hi _ => ⟨?_, trivial⟩) 3 0 fu cn rfl (by decide) trivial
  show b_X5_next_44 K (L_X5_next_44 K x v3 v4 (nI h) 0 n) x v3 v4 (nI h) 0 (nI i) f = _
  unfold b_X5_next_44
  rw [if_neg (show ¬ (3 : Int32) ≤ nI i from nle_nI (k := 3) (by decide) hi), inb_nI hi (by decide), gd_t, nI_clamp (by omega), nI_1]
theorem x5_next27 (v1 x : Int32) (hx : ¬ x = 0) : ∀ (c i n : Nat) (s : Int32 × Int32) (cn : Ar), i + c = 10 → c < n → ∃ cn2, L_X5_next_27 v1 x n s.1 s.2 (nI i) cn = j_X5_next_182 v1 (gat (amS (wstF x)) c i s).1 (gat (amS (wstF x)) c i s).2 cn2 := by
  intro c
  induction c with
  | zero =>
    intro i n s cn h hn
    obtain ⟨n, rfl⟩ : ∃ w, n = w + 1 := ⟨n - 1, by omega⟩
    have e : i = 10 := by omega
    subst e
    exact ⟨cn, rfl⟩
  | succ c ih =>
    intro i n s cn h hn
    obtain ⟨n, rfl⟩ : ∃ w, n = w + 1 := ⟨n - 1, by omega⟩
    show ∃ cn2, b_X5_next_27 (L_X5_next_27 v1 x n) v1 x s.1 s.2 (nI i) cn = _
    unfold b_X5_next_27
    rw [if_neg (show ¬ (10 : Int32) ≤ nI i from nle_nI (k := 10) (by decide) (by omega)), if_neg hx, x5_next44, x5_next67 _ _ _ _ (show i < 10 by omega), x5_next108 _ x s _ (fun l hl => cn_val x (show i < 10 by omega) hl _ (amap_in (Nat.zero_le _) hl))]
    exact ih (i + 1) n (amS (wstF x) i s) _ (by omega) (by omega)
set_option maxHeartbeats 4000000 in
theorem p_next (v1 : Int32) (ct : Int32) (sg : Ar) (si : Int32) (ft : Int32) (th : Int32) (he : Int32) (ma : Int32) (ro : Int32) (fi : Ar) (to : Ar) (ne : Ar) (ac : Int32) (wy : Int32) (fa : Int32) (fp : Int32) (thw : Int32) (hew : Int32) (maw : Int32) (row : Int32) (fiw : Ar) (tow : Ar) (zth : Int32) (zsi : Int32) (zsn : Int32) (zre : Int32) (zac : Int32) (zfa : Int32) (zfw : Int32) (zbk : Ar) (znw : Ar) (zto : Ar) (zne : Ar) (zst : Ar) (zpd : Ar) (zcn : Ar) (zig : Ar) (zik : Ar) (hR : CR ct sg si ft th he ma ro fi to ne zth zsi zsn zbk zto zne zst zpd) : ∃ (r : Int32) (zcn2 : Ar), m_X4_next v1 ft = some r ∧ m_X5_next v1 zsi zst zcn = some (r, zcn2) ∧ CR ct sg si ft th he ma ro fi to ne zth zsi zsn zbk zto zne zst zpd := by
  obtain ⟨hp, hw, hm, ⟨k, hk, rfl, rfl, rfl⟩⟩ := id hR
  suffices h : ∃ r cn2, m_X4_next v1 (tsF k zst) = some r ∧ m_X5_next v1 (nI k) zst zcn = some (r, cn2) by
    obtain ⟨r, cn2, a, b⟩ := h
    exact ⟨r, cn2, a, b, hR⟩
  have hx : smallB 10 (tsF k zst) := small_gor _ 10 (by decide)
  unfold m_X4_next m_X5_next
  by_cases h1 : 0 ≤ v1 ∧ v1 ≤ 1
  · rw [iso_if_p h1, in_if_p h1, x5_toneSet hk, ob1_s]
    generalize tsF k zst = x at hx
    by_cases c0 : x = 0
    · rw [if_pos c0]
      refine ⟨-6, zcn, rfl, ?_⟩
      show b_X5_next_27 (L_X5_next_27 v1 x 4999) v1 x (-6) 1000000 0 zcn = _
      unfold b_X5_next_27 j_X5_next_182
      rw [if_neg (by decide), if_pos c0, if_pos (by decide)]
    · rw [if_neg c0, x4_bha hx, ob1_s]
      obtain ⟨cn2, e2⟩ := x5_next27 v1 x c0 10 0 fu (-6, 1000000) zcn rfl (by decide)
      have e0 : amS (wstF x) 0 (-6, 1000000) = (nI 0, wstF x 0) := by
        obtain ⟨S, hS, es⟩ := wst_rg x 0
        unfold amS
        rw [if_neg]
        show ¬ (1000000 : Int32) ≤ wstF x 0
        rw [es]
        exact nle_nI (k := 1000000) (by decide) (by omega)
      have e3 : gat (amS (wstF x)) 10 0 (-6, 1000000) = gat (amS (wstF x)) 9 1 (nI 0, wstF x 0) := by
        show gat (amS (wstF x)) 9 1 (amS (wstF x) 0 (-6, 1000000)) = _
        rw [e0]
      rw [e3] at e2
      obtain ⟨q, -, hq, e⟩ := am_I (wstF x) 10 (by decide)
      rw [show gat (amS (wstF x)) (10 - 1) 1 (nI 0, wstF x 0) = gat (amS (wstF x)) 9 1 (nI 0, wstF x 0) from rfl] at e
      rw [e] at e2
      rw [e, x4_mostLeft hx, ob1_s]
      refine (show ∃ r cn2, _ ∧ L_X5_next_27 v1 x fu (-6) 1000000 0 zcn = some (r, cn2) from ?_)
      rw [show L_X5_next_27 v1 x fu (-6) 1000000 0 zcn = j_X5_next_182 v1 (nI q) (wstF x q) cn2 from e2]
      unfold j_X5_next_182
      rw [if_neg (nI_pos (by omega))]
      by_cases c : v1 = 0
      · rw [if_pos c, if_pos c]; exact ⟨_, _, rfl, rfl⟩
      · rw [if_neg c, if_neg c]; exact ⟨_, _, rfl, rfl⟩
  · rw [iso_if_n h1, in_if_n h1]; exact ⟨_, _, rfl, rfl⟩
