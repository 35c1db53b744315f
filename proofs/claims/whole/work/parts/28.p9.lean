/-! images, and what is made at the start -/
def slc (ig : Ar) (k : Nat) : Ar := fun j => ig (k + j)
def RI (n : Nat) (si ft th he ma ro : Int32) (fi to ne ig : Ar) : Prop :=
  Rwall fi to th he ma ro (slc ig (60 * n)) (slc ig (60 * n + 15)) (ig (60 * n + 55)) ∧ Rmen ne (slc ig (60 * n + 27)) ∧ Rsight si ft (ig (60 * n + 56)) (slc ig (60 * n + 35))
theorem fitk_c {st st2 : Ar} {t : Nat} : ∀ {k : Nat}, (∀ i, i < 2 * k → st i = st2 i) → fitk st t k = fitk st2 t k
  | 0, _ => rfl
  | k + 1, h => by
    unfold fitk
    rw [fitk_c (k := k) (fun i hi => h i (by omega)), h (2 * k) (by omega), h (2 * k + 1) (by omega)]
theorem tsF_c {st st2 : Ar} {k : Nat} (h : ∀ i, i < 2 * k → st i = st2 i) : tsF k st = tsF k st2 := by
  unfold tsF
  congr 1
  funext t
  exact fitk_c h
theorem Rwall_c {fi to fi2 to2 bk mto bk2 mto2 : Ar} {th he ma ro mth : Int32} (h : Rwall fi to th he ma ro bk mto mth) (h1 : ∀ i, i < 12 → fi2 i = fi i) (h2 : ∀ i, i < 12 → to2 i = to i) (h3 : ∀ i, i < 15 → bk2 i = bk i) (h4 : ∀ i, i < 12 → mto2 i = mto i) : Rwall fi2 to2 th he ma ro bk2 mto2 mth := by
  obtain ⟨⟨w1, w2, w3, w4⟩, ⟨g1, g2⟩, t1, t2, t3⟩ := h
  refine ⟨⟨fun i hi => ?_, ?_, ?_, ?_⟩, ⟨fun i hi => ?_, g2⟩, fun i hi => ?_, fun i hi => ?_, t3⟩
  · rw [h3 i (by omega), h1 i hi]; exact w1 i hi
  · rw [h3 12 (by omega)]; exact w2
  · rw [h3 13 (by omega)]; exact w3
  · rw [h3 14 (by omega)]; exact w4
  · rw [h1 i hi]; exact g1 i hi
  · rw [h4 i hi, h2 i hi]; exact t1 i hi
  · rw [h2 i hi]; exact t2 i hi
theorem Rmen_c {ne ne2 mne mne2 : Ar} (h : Rmen ne mne) (h1 : ∀ i, i < 8 → ne2 i = ne i) (h2 : ∀ i, i < 8 → mne2 i = mne i) : Rmen ne2 mne2 := by
  refine ⟨fun i hi => ?_, fun i hi => ?_⟩
  · rw [h2 i hi, h1 i hi]; exact h.1 i hi
  · rw [h1 i hi]; exact h.2 i hi
theorem Rsight_c {si ft msi : Int32} {st st2 : Ar} (h : Rsight si ft msi st) (h1 : ∀ i, i < 16 → st2 i = st i) : Rsight si ft msi st2 := by
  obtain ⟨k, hk, e1, e2, e3⟩ := h
  exact ⟨k, hk, e1, e2, e3.trans (tsF_c (fun i hi => (h1 i (by omega)).symm))⟩
theorem RI_c {n : Nat} {si ft th he ma ro : Int32} {fi to ne ig ig2 : Ar} (h : RI n si ft th he ma ro fi to ne ig) (h1 : ∀ j, j < 57 → ig2 (60 * n + j) = ig (60 * n + j)) : RI n si ft th he ma ro fi to ne ig2 := by
  obtain ⟨hw, hm, hs⟩ := h
  refine ⟨?_, ?_, ?_⟩
  · rw [h1 55 (by decide)]
    refine Rwall_c hw (fun _ _ => rfl) (fun _ _ => rfl) (fun i hi => h1 i (by omega)) (fun i hi => ?_)
    have := h1 (15 + i) (by omega)
    show ig2 (60 * n + 15 + i) = ig (60 * n + 15 + i)
    rw [Nat.add_assoc]; exact this
  · refine Rmen_c hm (fun _ _ => rfl) (fun i hi => ?_)
    have := h1 (27 + i) (by omega)
    show ig2 (60 * n + 27 + i) = ig (60 * n + 27 + i)
    rw [Nat.add_assoc]; exact this
  · rw [h1 56 (by decide)]
    refine Rsight_c hs (fun i hi => ?_)
    have := h1 (35 + i) (by omega)
    show ig2 (60 * n + 35 + i) = ig (60 * n + 35 + i)
    rw [Nat.add_assoc]; exact this
/-- a stretch of places taken out of another array -/
def cpA (src : Ar) (off N : Nat) (ig : Ar) : Ar := fun j => if off ≤ j ∧ j < off + N then src (j - off) else ig j
theorem cpA_in {src ig : Ar} {off N j : Nat} (h : j < N) : cpA src off N ig (off + j) = src j := by
  unfold cpA
  rw [if_pos ⟨by omega, by omega⟩, Nat.add_sub_cancel_left]
theorem cpA_out {src ig : Ar} {off N j : Nat} (h : j < off ∨ off + N ≤ j) : cpA src off N ig j = ig j := if_neg (by omega)
theorem gat_cpA (src : Ar) (off : Nat) : ∀ (c i : Nat) (ig : Ar), gat (fun i (s : Ar) => upd s (off + i) (src i)) c i ig = fun j => if off + i ≤ j ∧ j < off + i + c then src (j - off) else ig j
  | 0, i, ig => by
    funext j
    rw [if_neg (by omega)]
    rfl
  | c + 1, i, ig => by
    show gat _ c (i + 1) (upd ig (off + i) (src i)) = _
    rw [gat_cpA src off c (i + 1) _]
    funext j
    by_cases e : j = off + i
    · rw [e, if_neg (by omega), if_pos (by omega), upd_at, Nat.add_sub_cancel_left]
    · rw [upd_ne e]
      by_cases h : off + i ≤ j ∧ j < off + i + (c + 1)
      · rw [if_pos h, if_pos (by omega)]
      · rw [if_neg h, if_neg (by omega)]
theorem cp_eq (src : Ar) (off N : Nat) (ig : Ar) : gat (fun i (s : Ar) => upd s (off + i) (src i)) N 0 ig = cpA src off N ig := gat_cpA src off N 0 ig
theorem x5_im109 {n : Nat} (hn : n < 2) (th si : Int32) (st ik ig : Ar) : L_X5_image_109 (nI n) (nI (60 * n)) th si st ik fu 0 ig = some (1, upd (upd (cpA st (60 * n + 35) 16 ig) (60 * n + 55) th) (60 * n + 56) si, upd ik n 1) := by
  rw [← cp_eq]
  refine lp_gat (fun m s v => L_X5_image_109 (nI n) (nI (60 * n)) th si st ik m v s) (fun s => some (1, upd (upd s (60 * n + 55) th) (60 * n + 56) si, upd ik n 1)) 16 (fun i (s : Ar) => upd s (60 * n + 35 + i) (st i)) (fun _ _ => True) (fun m s _ => ?_) (fun m i s hi _ => ⟨?_, trivial⟩) 16 0 fu ig rfl (by decide) trivial
  · show b_X5_image_109 (L_X5_image_109 (nI n) (nI (60 * n)) th si st ik m) (nI n) (nI (60 * n)) th si st ik (nI 16) s = _
    unfold b_X5_image_109
    rw [if_pos (show (16 : Int32) ≤ nI 16 from Int32.le_refl _), show nI (60 * n) + 55 = nI (60 * n + 55) from nI_add _ 55, show nI (60 * n) + 56 = nI (60 * n + 56) from nI_add _ 56, inb_nI (by omega) (by decide), inb_nI (by omega) (by decide), inb_nI hn (by decide), gd_t, gd_t, gd_t, nI_clamp (by omega), nI_clamp (by omega), nI_clamp (by omega)]
  · show b_X5_image_109 (L_X5_image_109 (nI n) (nI (60 * n)) th si st ik m) (nI n) (nI (60 * n)) th si st ik (nI i) s = _
    unfold b_X5_image_109
    rw [if_neg (show ¬ (16 : Int32) ≤ nI i from nle_nI (k := 16) (by decide) hi), show nI (60 * n) + 35 = nI (60 * n + 35) from nI_add _ 35, nI_add, nI_1, inb_nI hi (by decide), inb_nI (show 60 * n + 35 + i < 120 by omega) (by decide), gd_t, gd_t, nI_clamp (by omega), nI_clamp (by omega)]
theorem x5_im78 {n : Nat} (hn : n < 2) (th si : Int32) (ne st ik ig : Ar) : L_X5_image_78 (nI n) (nI (60 * n)) th si ne st ik fu 0 ig = L_X5_image_109 (nI n) (nI (60 * n)) th si st ik fu 0 (cpA ne (60 * n + 27) 8 ig) := by
  rw [← cp_eq]
  refine lp_gat (fun m s v => L_X5_image_78 (nI n) (nI (60 * n)) th si ne st ik m v s) (fun s => L_X5_image_109 (nI n) (nI (60 * n)) th si st ik fu 0 s) 8 (fun i (s : Ar) => upd s (60 * n + 27 + i) (ne i)) (fun _ _ => True) (fun m s _ => ?_) (fun m i s hi _ => ⟨?_, trivial⟩) 8 0 fu ig rfl (by decide) trivial
  · show b_X5_image_78 (L_X5_image_78 (nI n) (nI (60 * n)) th si ne st ik m) (nI n) (nI (60 * n)) th si ne st ik (nI 8) s = _
    unfold b_X5_image_78
    rw [if_pos (show (8 : Int32) ≤ nI 8 from Int32.le_refl _)]
  · show b_X5_image_78 (L_X5_image_78 (nI n) (nI (60 * n)) th si ne st ik m) (nI n) (nI (60 * n)) th si ne st ik (nI i) s = _
    unfold b_X5_image_78
    rw [if_neg (show ¬ (8 : Int32) ≤ nI i from nle_nI (k := 8) (by decide) hi), show nI (60 * n) + 27 = nI (60 * n + 27) from nI_add _ 27, nI_add, nI_1, inb_nI hi (by decide), inb_nI (show 60 * n + 27 + i < 120 by omega) (by decide), gd_t, gd_t, nI_clamp (by omega), nI_clamp (by omega)]
theorem x5_im47 {n : Nat} (hn : n < 2) (th si : Int32) (to ne st ik ig : Ar) : L_X5_image_47 (nI n) (nI (60 * n)) th si to ne st ik fu 0 ig = L_X5_image_78 (nI n) (nI (60 * n)) th si ne st ik fu 0 (cpA to (60 * n + 15) 12 ig) := by
  rw [← cp_eq]
  refine lp_gat (fun m s v => L_X5_image_47 (nI n) (nI (60 * n)) th si to ne st ik m v s) (fun s => L_X5_image_78 (nI n) (nI (60 * n)) th si ne st ik fu 0 s) 12 (fun i (s : Ar) => upd s (60 * n + 15 + i) (to i)) (fun _ _ => True) (fun m s _ => ?_) (fun m i s hi _ => ⟨?_, trivial⟩) 12 0 fu ig rfl (by decide) trivial
  · show b_X5_image_47 (L_X5_image_47 (nI n) (nI (60 * n)) th si to ne st ik m) (nI n) (nI (60 * n)) th si to ne st ik (nI 12) s = _
    unfold b_X5_image_47
    rw [if_pos (show (12 : Int32) ≤ nI 12 from Int32.le_refl _)]
  · show b_X5_image_47 (L_X5_image_47 (nI n) (nI (60 * n)) th si to ne st ik m) (nI n) (nI (60 * n)) th si to ne st ik (nI i) s = _
    unfold b_X5_image_47
    rw [if_neg (show ¬ (12 : Int32) ≤ nI i from nle_nI (k := 12) (by decide) hi), show nI (60 * n) + 15 = nI (60 * n + 15) from nI_add _ 15, nI_add, nI_1, inb_nI hi (by decide), inb_nI (show 60 * n + 15 + i < 120 by omega) (by decide), gd_t, gd_t, nI_clamp (by omega), nI_clamp (by omega)]
theorem x5_im19 {n : Nat} (hn : n < 2) (th si : Int32) (bk to ne st ik ig : Ar) : L_X5_image_19 (nI n) (nI (60 * n)) th si bk to ne st ik fu 0 ig = L_X5_image_47 (nI n) (nI (60 * n)) th si to ne st ik fu 0 (cpA bk (60 * n) 15 ig) := by
  rw [← cp_eq]
  refine lp_gat (fun m s v => L_X5_image_19 (nI n) (nI (60 * n)) th si bk to ne st ik m v s) (fun s => L_X5_image_47 (nI n) (nI (60 * n)) th si to ne st ik fu 0 s) 15 (fun i (s : Ar) => upd s (60 * n + i) (bk i)) (fun _ _ => True) (fun m s _ => ?_) (fun m i s hi _ => ⟨?_, trivial⟩) 15 0 fu ig rfl (by decide) trivial
  · show b_X5_image_19 (L_X5_image_19 (nI n) (nI (60 * n)) th si bk to ne st ik m) (nI n) (nI (60 * n)) th si bk to ne st ik (nI 15) s = _
    unfold b_X5_image_19
    rw [if_pos (show (15 : Int32) ≤ nI 15 from Int32.le_refl _)]
  · show b_X5_image_19 (L_X5_image_19 (nI n) (nI (60 * n)) th si bk to ne st ik m) (nI n) (nI (60 * n)) th si bk to ne st ik (nI i) s = _
    unfold b_X5_image_19
    rw [if_neg (show ¬ (15 : Int32) ≤ nI i from nle_nI (k := 15) (by decide) hi), nI_add, nI_1, inb_nI hi (by decide), inb_nI (show 60 * n + i < 120 by omega) (by decide), gd_t, gd_t, nI_clamp (by omega), nI_clamp (by omega)]
def imA (n : Nat) (th si : Int32) (bk to ne st ig : Ar) : Ar := upd (upd (cpA st (60 * n + 35) 16 (cpA ne (60 * n + 27) 8 (cpA to (60 * n + 15) 12 (cpA bk (60 * n) 15 ig)))) (60 * n + 55) th) (60 * n + 56) si
theorem x5_image {n : Nat} (hn : n < 2) (th si : Int32) (bk to ne st ig ik : Ar) : m_X5_image (nI n) th si bk to ne st ig ik = some (1, imA n th si bk to ne st ig, upd ik n 1) := by
  unfold m_X5_image
  rw [in_if_p (show 0 ≤ nI n ∧ nI n ≤ 1 from nI_rg (n := 1) (by omega) (by decide)), show (60 : Int32) * nI n = nI (60 * n) from pk_mul 60 n, x5_im19 hn, x5_im47 hn, x5_im78 hn, x5_im109 hn]
  rfl
theorem imA_other {n m : Nat} (h : m ≠ n) (th si : Int32) (bk to ne st ig : Ar) : ∀ j, j < 57 → imA n th si bk to ne st ig (60 * m + j) = ig (60 * m + j) := fun j hj => by
  unfold imA
  rw [upd_ne (by omega), upd_ne (by omega), cpA_out (by omega), cpA_out (by omega), cpA_out (by omega), cpA_out (by omega)]
theorem imA_self {n : Nat} {ct : Int32} {sg : Ar} {si ft th he ma ro : Int32} {fi to ne : Ar} {zth zsi zsn : Int32} {zbk zto zne zst zpd : Ar} (hR : CR ct sg si ft th he ma ro fi to ne zth zsi zsn zbk zto zne zst zpd) (g1 g2 g3 ig : Ar) : RI n si ft th he ma ro (va_cpy fi g1 0 0 12) (va_cpy to g2 0 0 12) (va_cpy ne g3 0 0 8) (imA n zth zsi zbk zto zne zst ig) := by
  obtain ⟨-, hw, hm, hs⟩ := hR
  refine ⟨?_, ?_, ?_⟩
  · have e : imA n zth zsi zbk zto zne zst ig (60 * n + 55) = zth := by
      unfold imA
      rw [upd_ne (by omega), upd_at]
    rw [e]
    refine Rwall_c hw (fun i hi => cpy_lt hi) (fun i hi => cpy_lt hi) (fun i hi => ?_) (fun i hi => ?_)
    · show imA n zth zsi zbk zto zne zst ig (60 * n + i) = _
      unfold imA
      rw [upd_ne (by omega), upd_ne (by omega), cpA_out (by omega), cpA_out (by omega), cpA_out (by omega), cpA_in hi]
    · show imA n zth zsi zbk zto zne zst ig (60 * n + 15 + i) = _
      unfold imA
      rw [upd_ne (by omega), upd_ne (by omega), cpA_out (by omega), cpA_out (by omega), cpA_in hi]
  · refine Rmen_c hm (fun i hi => cpy_lt hi) (fun i hi => ?_)
    show imA n zth zsi zbk zto zne zst ig (60 * n + 27 + i) = _
    unfold imA
    rw [upd_ne (by omega), upd_ne (by omega), cpA_out (by omega), cpA_in hi]
  · have e : imA n zth zsi zbk zto zne zst ig (60 * n + 56) = zsi := by
      unfold imA
      rw [upd_at]
    rw [e]
    refine Rsight_c hs (fun i hi => ?_)
    show imA n zth zsi zbk zto zne zst ig (60 * n + 35 + i) = _
    unfold imA
    rw [upd_ne (by omega), upd_ne (by omega), cpA_in hi]
theorem x5_re121 {n : Nat} (hn : n < 2) (bk to ne st ig : Ar) : L_X5_restore_121 (nI (60 * n)) bk to ne ig fu 0 st = some (1, ig (60 * n + 55), ig (60 * n + 56), bk, to, ne, amap 0 16 (fun i _ => ig (60 * n + 35 + i)) st) := by
  refine lp_amap (fun m v f => L_X5_restore_121 (nI (60 * n)) bk to ne ig m v f) (fun f => some (1, ig (60 * n + 55), ig (60 * n + 56), bk, to, ne, f)) 16 (by decide) (fun i _ => ig (60 * n + 35 + i)) (fun _ => True) (fun m f _ => ?_) (fun m i f hi _ => ⟨?_, trivial⟩) 16 0 fu st rfl (by decide) trivial
  · show b_X5_restore_121 (L_X5_restore_121 (nI (60 * n)) bk to ne ig m) (nI (60 * n)) bk to ne ig (nI 16) f = _
    unfold b_X5_restore_121
    rw [if_pos (show (16 : Int32) ≤ nI 16 from Int32.le_refl _), show nI (60 * n) + 55 = nI (60 * n + 55) from nI_add _ 55, show nI (60 * n) + 56 = nI (60 * n + 56) from nI_add _ 56, inb_nI (by omega) (by decide), inb_nI (by omega) (by decide), gd_t, gd_t, nI_clamp (by omega), nI_clamp (by omega)]
  · show b_X5_restore_121 (L_X5_restore_121 (nI (60 * n)) bk to ne ig m) (nI (60 * n)) bk to ne ig (nI i) f = _
    unfold b_X5_restore_121
    rw [if_neg (show ¬ (16 : Int32) ≤ nI i from nle_nI (k := 16) (by decide) hi), show nI (60 * n) + 35 = nI (60 * n + 35) from nI_add _ 35, nI_add, nI_1, inb_nI hi (by decide), inb_nI (show 60 * n + 35 + i < 120 by omega) (by decide), gd_t, gd_t, nI_clamp (by omega), nI_clamp (by omega)]
theorem x5_re90 {n : Nat} (hn : n < 2) (bk to ne st ig : Ar) : L_X5_restore_90 (nI (60 * n)) bk to st ig fu 0 ne = L_X5_restore_121 (nI (60 * n)) bk to (amap 0 8 (fun i _ => ig (60 * n + 27 + i)) ne) ig fu 0 st := by
  refine lp_amap (fun m v f => L_X5_restore_90 (nI (60 * n)) bk to st ig m v f) (fun f => L_X5_restore_121 (nI (60 * n)) bk to f ig fu 0 st) 8 (by decide) (fun i _ => ig (60 * n + 27 + i)) (fun _ => True) (fun m f _ => ?_) (fun m i f hi _ => ⟨?_, trivial⟩) 8 0 fu ne rfl (by decide) trivial
  · show b_X5_restore_90 (L_X5_restore_90 (nI (60 * n)) bk to st ig m) (nI (60 * n)) bk to st ig (nI 8) f = _
    unfold b_X5_restore_90
    rw [if_pos (show (8 : Int32) ≤ nI 8 from Int32.le_refl _)]
  · show b_X5_restore_90 (L_X5_restore_90 (nI (60 * n)) bk to st ig m) (nI (60 * n)) bk to st ig (nI i) f = _
    unfold b_X5_restore_90
    rw [if_neg (show ¬ (8 : Int32) ≤ nI i from nle_nI (k := 8) (by decide) hi), show nI (60 * n) + 27 = nI (60 * n + 27) from nI_add _ 27, nI_add, nI_1, inb_nI hi (by decide), inb_nI (show 60 * n + 27 + i < 120 by omega) (by decide), gd_t, gd_t, nI_clamp (by omega), nI_clamp (by omega)]
theorem x5_re59 {n : Nat} (hn : n < 2) (bk to ne st ig : Ar) : L_X5_restore_59 (nI (60 * n)) bk ne st ig fu 0 to = L_X5_restore_90 (nI (60 * n)) bk (amap 0 12 (fun i _ => ig (60 * n + 15 + i)) to) st ig fu 0 ne := by
  refine lp_amap (fun m v f => L_X5_restore_59 (nI (60 * n)) bk ne st ig m v f) (fun f => L_X5_restore_90 (nI (60 * n)) bk f st ig fu 0 ne) 12 (by decide) (fun i _ => ig (60 * n + 15 + i)) (fun _ => True) (fun m f _ => ?_) (fun m i f hi _ => ⟨?_, trivial⟩) 12 0 fu to rfl (by decide) trivial
  · show b_X5_restore_59 (L_X5_restore_59 (nI (60 * n)) bk ne st ig m) (nI (60 * n)) bk ne st ig (nI 12) f = _
    unfold b_X5_restore_59
    rw [if_pos (show (12 : Int32) ≤ nI 12 from Int32.le_refl _)]
  · show b_X5_restore_59 (L_X5_restore_59 (nI (60 * n)) bk ne st ig m) (nI (60 * n)) bk ne st ig (nI i) f = _
    unfold b_X5_restore_59
    rw [if_neg (show ¬ (12 : Int32) ≤ nI i from nle_nI (k := 12) (by decide) hi), show nI (60 * n) + 15 = nI (60 * n + 15) from nI_add _ 15, nI_add, nI_1, inb_nI hi (by decide), inb_nI (show 60 * n + 15 + i < 120 by omega) (by decide), gd_t, gd_t, nI_clamp (by omega), nI_clamp (by omega)]
theorem x5_re31 {n : Nat} (hn : n < 2) (bk to ne st ig : Ar) : L_X5_restore_31 (nI (60 * n)) to ne st ig fu 0 bk = L_X5_restore_59 (nI (60 * n)) (amap 0 15 (fun i _ => ig (60 * n + i)) bk) ne st ig fu 0 to := by
  refine lp_amap (fun m v f => L_X5_restore_31 (nI (60 * n)) to ne st ig m v f) (fun f => L_X5_restore_59 (nI (60 * n)) f ne st ig fu 0 to) 15 (by decide) (fun i _ => ig (60 * n + i)) (fun _ => True) (fun m f _ => ?_) (fun m i f hi _ => ⟨?_, trivial⟩) 15 0 fu bk rfl (by decide) trivial
  · show b_X5_restore_31 (L_X5_restore_31 (nI (60 * n)) to ne st ig m) (nI (60 * n)) to ne st ig (nI 15) f = _
    unfold b_X5_restore_31
    rw [if_pos (show (15 : Int32) ≤ nI 15 from Int32.le_refl _)]
  · show b_X5_restore_31 (L_X5_restore_31 (nI (60 * n)) to ne st ig m) (nI (60 * n)) to ne st ig (nI i) f = _
    unfold b_X5_restore_31
    rw [if_neg (show ¬ (15 : Int32) ≤ nI i from nle_nI (k := 15) (by decide) hi), nI_add, nI_1, inb_nI hi (by decide), inb_nI (show 60 * n + i < 120 by omega) (by decide), gd_t, gd_t, nI_clamp (by omega), nI_clamp (by omega)]
theorem x5_restoreS {n : Nat} (hn : n < 2) (th si : Int32) (bk to ne st ig ik : Ar) (hk : ik n = 1) : m_X5_restore (nI n) th si bk to ne st ig ik = some (1, ig (60 * n + 55), ig (60 * n + 56), amap 0 15 (fun i _ => ig (60 * n + i)) bk, amap 0 12 (fun i _ => ig (60 * n + 15 + i)) to, amap 0 8 (fun i _ => ig (60 * n + 27 + i)) ne, amap 0 16 (fun i _ => ig (60 * n + 35 + i)) st) := by
  unfold m_X5_restore
  rw [in_if_p (show 0 ≤ nI n ∧ nI n ≤ 1 from nI_rg (n := 1) (by omega) (by decide)), inb_nI hn (by decide), gd_t, nI_clamp (by omega), hk, if_neg (by decide), show (60 : Int32) * nI n = nI (60 * n) from pk_mul 60 n, x5_re31 hn, x5_re59 hn, x5_re90 hn, x5_re121 hn]
theorem x5_restoreN {n : Nat} (hn : n < 2) (th si : Int32) (bk to ne st ig ik : Ar) (hk : ik n = 0) : m_X5_restore (nI n) th si bk to ne st ig ik = some (-3, th, si, bk, to, ne, st) := by
  unfold m_X5_restore
  rw [in_if_p (show 0 ≤ nI n ∧ nI n ≤ 1 from nI_rg (n := 1) (by omega) (by decide)), inb_nI hn (by decide), gd_t, nI_clamp (by omega), hk, if_pos rfl]
theorem re_CR {n : Nat} {ct : Int32} {sg : Ar} {si ft th he ma ro : Int32} {fi to ne : Ar} {zth zsi zsn : Int32} {zbk zto zne zst zpd : Ar} (hR : CR ct sg si ft th he ma ro fi to ne zth zsi zsn zbk zto zne zst zpd) {sii fti thi hei mai roi : Int32} {fii toi nei ig : Ar} (hI : RI n sii fti thi hei mai roi fii toi nei ig) :
    CR ct sg sii fti thi hei mai roi (va_cpy fii fi 0 0 12) (va_cpy toi to 0 0 12) (va_cpy nei ne 0 0 8) (ig (60 * n + 55)) (ig (60 * n + 56)) zsn (amap 0 15 (fun i _ => ig (60 * n + i)) zbk) (amap 0 12 (fun i _ => ig (60 * n + 15 + i)) zto) (amap 0 8 (fun i _ => ig (60 * n + 27 + i)) zne) (amap 0 16 (fun i _ => ig (60 * n + 35 + i)) zst) zpd := by
  obtain ⟨hw, hm, hs⟩ := hI
  refine ⟨hR.1, Rwall_c hw (fun i hi => cpy_lt hi) (fun i hi => cpy_lt hi) (fun i hi => ?_) (fun i hi => ?_), Rmen_c hm (fun i hi => cpy_lt hi) (fun i hi => ?_), Rsight_c hs (fun i hi => ?_)⟩
  all_goals (rw [amap_in (Nat.zero_le _) hi]; rfl)
theorem fill_eq {nn : Nat} (h : nn < 5000) (v : Int32) (f : Ar) : m_J7_fill_53178 nn v f = some (amap 0 nn (fun _ _ => v) f) := by
  refine lp_amap (fun m v2 f => L_J7_fill_53178_5 nn v (Int32.ofNat nn) m v2 f) (fun f => some f) nn (by omega) (fun _ _ => v) (fun _ => True) (fun m f _ => ?_) (fun m i f hi _ => ⟨?_, trivial⟩) nn 0 fu f (by omega) h trivial
  · show b_J7_fill_53178_5 (L_J7_fill_53178_5 nn v (Int32.ofNat nn) m) nn v (Int32.ofNat nn) (nI nn) f = _
    unfold b_J7_fill_53178_5
    rw [if_pos (show Int32.ofNat nn ≤ nI nn from Int32.le_refl _)]
  · show b_J7_fill_53178_5 (L_J7_fill_53178_5 nn v (Int32.ofNat nn) m) nn v (Int32.ofNat nn) (nI i) f = _
    unfold b_J7_fill_53178_5
    rw [if_neg (show ¬ Int32.ofNat nn ≤ nI i from nle_nI (k := nn) (by omega) hi), inb_nI hi (by omega), gd_t, nI_clamp (by omega), nI_1]
def a0 : Ar := fun _ => (0 : Int32)
theorem i3_eq : m_X3_init = some (0, 0, 0, 0, amap 0 12 (fun _ _ => 10) a0, a0) := by
  unfold m_X3_init
  rw [fill_eq (by decide)]
  rfl
theorem i1_eq : m_X1_init = some (0, 1023, 0, 0, 0, 0, amap 0 12 (fun _ _ => 10) a0, a0, amap 0 8 (fun _ _ => 8) a0) := by
  unfold m_X1_init
  rw [i3_eq, fill_eq (by decide)]
  rfl
theorem i2_eq : m_X2_init = some (0, 0, 0, 0, 0, 0, 0, 0, amap 0 12 (fun _ _ => 10) a0, a0) := by
  unfold m_X2_init
  rw [i3_eq]
  rfl
theorem i4_eq : m_X4_init = some (0, a0, 0, 1023, 0, 0, 0, 0, amap 0 12 (fun _ _ => 10) a0, a0, amap 0 8 (fun _ _ => 8) a0, 0, 0, 0, 0, 0, 0, 0, 0, amap 0 12 (fun _ _ => 10) a0, a0, fun _ => none) := by
  unfold m_X4_init
  rw [i1_eq, i2_eq]
  rfl
theorem i5_eq : m_X5_init = some (0, 0, 0, 0, 0, 0, 0, amap 0 12 (fun _ _ => 10) a0, a0, a0, amap 0 8 (fun _ _ => 8) a0, a0, a0, a0, a0, a0) := by
  have h98 : ∀ bk : Ar, L_X5_init_98 0 0 0 0 0 0 0 bk a0 a0 a0 a0 a0 a0 a0 fu 0 a0 = some (0, 0, 0, 0, 0, 0, 0, bk, a0, a0, amap 0 8 (fun _ _ => 8) a0, a0, a0, a0, a0, a0) := by
    intro bk
    refine lp_amap (fun m v f => L_X5_init_98 0 0 0 0 0 0 0 bk a0 a0 a0 a0 a0 a0 a0 m v f) (fun f => some (0, 0, 0, 0, 0, 0, 0, bk, a0, a0, f, a0, a0, a0, a0, a0)) 8 (by decide) (fun _ _ => 8) (fun _ => True) (fun m f _ => ?_) (fun m i f hi _ => ⟨?_, trivial⟩) 8 0 fu a0 rfl (by decide) trivial
    · show b_X5_init_98 (L_X5_init_98 0 0 0 0 0 0 0 bk a0 a0 a0 a0 a0 a0 a0 m) 0 0 0 0 0 0 0 bk a0 a0 a0 a0 a0 a0 a0 (nI 8) f = _
      unfold b_X5_init_98
      rw [if_pos (show (8 : Int32) ≤ nI 8 from Int32.le_refl _)]
    · show b_X5_init_98 (L_X5_init_98 0 0 0 0 0 0 0 bk a0 a0 a0 a0 a0 a0 a0 m) 0 0 0 0 0 0 0 bk a0 a0 a0 a0 a0 a0 a0 (nI i) f = _
      unfold b_X5_init_98
      rw [if_neg (show ¬ (8 : Int32) ≤ nI i from nle_nI (k := 8) (by decide) hi), inb_nI hi (by decide), gd_t, nI_clamp (by omega), nI_1]
  rw [← h98]
  refine lp_amap (fun m v f => L_X5_init_76 0 0 0 0 0 0 0 a0 a0 a0 a0 a0 a0 a0 a0 m v f) (fun f => L_X5_init_98 0 0 0 0 0 0 0 f a0 a0 a0 a0 a0 a0 a0 fu 0 a0) 12 (by decide) (fun _ _ => 10) (fun _ => True) (fun m f _ => ?_) (fun m i f hi _ => ⟨?_, trivial⟩) 12 0 fu a0 rfl (by decide) trivial
  · show b_X5_init_76 (L_X5_init_76 0 0 0 0 0 0 0 a0 a0 a0 a0 a0 a0 a0 a0 m) 0 0 0 0 0 0 0 a0 a0 a0 a0 a0 a0 a0 a0 (nI 12) f = _
    unfold b_X5_init_76
    rw [if_pos (show (12 : Int32) ≤ nI 12 from Int32.le_refl _)]
  · show b_X5_init_76 (L_X5_init_76 0 0 0 0 0 0 0 a0 a0 a0 a0 a0 a0 a0 a0 m) 0 0 0 0 0 0 0 a0 a0 a0 a0 a0 a0 a0 a0 (nI i) f = _
    unfold b_X5_init_76
    rw [if_neg (show ¬ (12 : Int32) ≤ nI i from nle_nI (k := 12) (by decide) hi), inb_nI (show i < 15 by omega) (by decide), gd_t, nI_clamp (by omega), nI_1]
theorem CR_start : CR 0 a0 0 1023 0 0 0 0 (amap 0 12 (fun _ _ => 10) a0) a0 (amap 0 8 (fun _ _ => 8) a0) 0 0 0 (amap 0 12 (fun _ _ => 10) a0) a0 (amap 0 8 (fun _ _ => 8) a0) a0 a0 := by
  refine ⟨⟨0, by decide, rfl, rfl, fun i hi => by omega⟩, ⟨⟨fun i hi => rfl, rfl, rfl, rfl⟩, ⟨fun i hi => ?_, by decide, by decide, by decide⟩, fun i hi => rfl, fun i hi => ⟨Int32.le_refl _, show (0 : Int32) ≤ 9 by decide⟩, rfl, fun i hi => b_0 i⟩, ⟨fun i hi => rfl, fun i hi => ?_⟩, ⟨0, by decide, rfl, rfl, (ts_0 a0).symm⟩⟩
  · rw [amap_in (Nat.zero_le _) hi]; exact ⟨by decide, by decide⟩
  · rw [amap_in (Nat.zero_le _) hi]; exact ⟨by decide, by decide⟩
theorem x4_imageS {n : Nat} (hn : n < 2) (si ft th he ma ro : Int32) (fi to ne fii toi nei : Ar) : m_X4_imageS (nI n) si ft th he ma ro fi to ne fii toi nei = some (1, si, ft, th, he, ma, ro, va_cpy fi fii 0 0 12, va_cpy to toi 0 0 12, va_cpy ne nei 0 0 8) := by
  unfold m_X4_imageS
  rw [inb_nI hn (by decide)]
  rfl
theorem x4_imageN {n : Nat} (hn : n < 2) (si ft th he ma ro : Int32) (fi to ne : Ar) : ∃ g1 g2 g3 : Ar, m_X4_imageN (nI n) si ft th he ma ro fi to ne = some (1, si, ft, th, he, ma, ro, va_cpy fi g1 0 0 12, va_cpy to g2 0 0 12, va_cpy ne g3 0 0 8) := by
  refine ⟨amap 0 12 (fun _ _ => 10) a0, a0, amap 0 8 (fun _ _ => 8) a0, ?_⟩
  unfold m_X4_imageN
  rw [inb_nI hn (by decide), i1_eq]
  rfl
theorem x4_restoreS {n : Nat} (hn : n < 2) (fi to ne : Ar) (sii fti thi hei mai roi : Int32) (fii toi nei : Ar) : m_X4_restoreS (nI n) fi to ne sii fti thi hei mai roi fii toi nei = some (1, sii, fti, thi, hei, mai, roi, va_cpy fii fi 0 0 12, va_cpy toi to 0 0 12, va_cpy nei ne 0 0 8) := by
  unfold m_X4_restoreS
  rw [inb_nI hn (by decide)]
  rfl
theorem x4_restoreN {n : Nat} (hn : n < 2) : m_X4_restoreN (nI n) = some (-3) := by
  unfold m_X4_restoreN
  rw [inb_nI hn (by decide)]
  rfl
