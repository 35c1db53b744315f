set_option maxHeartbeats 4000000 in
set_option maxRecDepth 100000 in
theorem whole_start {p : Program} {e : Env} {s : State} {m : MethodId} {below : List Frame} {meth : Method} {c : Code} (l : Launch) {b L : Nat} {xs : Nat → Int32} (hL : L ≤ 320) (C0 : lw_At p s m meth c b L xs) : W p l e room_1 s m #[Value.ref b] below meth c s.heap [] 0 0 (lw_Z below #[Value.ref b] s) (entryFrame m ([Value.ref b] : List Value).toArray 4) := by
  obtain ⟨hx, hb, hr, hml, hown, hts, hX, hbl, hlocks, hgv⟩ := id C0
  have CF : CallFix p m c code 4 s #[Value.ref b] lw_tbl RL := ⟨hx, hb, hml, hown, hts⟩
  have hown : s.vm.findClass RL = some m.cls := hown
  have hA : ∀ q : Nat, s.heap.size ≤ q → LA s q := fun _ h => h
  obtain ⟨c0, iS0, hKn0⟩ := u_known (C := RX0) (T := TX0) (N := 2) (n := 2) hts (fun w h => (kG_in w (iG_0 w h)).1) (hts _ (kG_in _ mG_170).1)
  obtain ⟨c1, iS1, hKn1⟩ := u_known (C := RX1) (T := TX1) (N := 4) (n := 4) hts (fun w h => (kG_in w (iG_1 w h)).1) (hts _ (kG_in _ mG_173).1)
  obtain ⟨c2, iS2, hKn2⟩ := u_known (C := RX2) (T := TX2) (N := 5) (n := 5) hts (fun w h => (kG_in w (iG_2 w h)).1) (hts _ (kG_in _ mG_176).1)
  obtain ⟨c3, iS3, hKn3⟩ := u_known (C := RX3) (T := TX3) (N := 6) (n := 6) hts (fun w h => (kG_in w (iG_3 w h)).1) (hts _ (kG_in _ mG_29).1)
  obtain ⟨c4, iS4, hKn4⟩ := u_known (C := RX4) (T := TX4) (N := 4) (n := 4) hts (fun w h => (kG_in w (iG_4 w h)).1) (hts _ (kG_in _ mG_445).1)
  obtain ⟨c5, iS5, hKn5⟩ := u_known (C := RX5) (T := TX5) (N := 16) (n := 16) hts (fun w h => (kG_in w (iG_5 w h)).1) (hts _ (kG_in _ mG_447).1)
  obtain ⟨dC, dI, hKc⟩ : ∃ (dC : Nat → ClassId) (dI : Nat → Nat → Nat), ∀ (k : Nat) (q : vw_C), vwCl[k]? = some q → u_Kn s q.1 q.2.1 q.2.2 (dC k) (dI k) := by
    refine ⟨fun k => if k = 0 then c0 else if k = 1 then c1 else if k = 2 then c2 else if k = 3 then c3 else if k = 4 then c4 else c5, fun k => if k = 0 then iS0 else if k = 1 then iS1 else if k = 2 then iS2 else if k = 3 then iS3 else if k = 4 then iS4 else iS5, ?_⟩
    intro k q hq
    match k, hq with
    | 0, hq => cases hq; exact hKn0
    | 1, hq => cases hq; exact hKn1
    | 2, hq => cases hq; exact hKn2
    | 3, hq => cases hq; exact hKn3
    | 4, hq => cases hq; exact hKn4
    | 5, hq => cases hq; exact hKn5
    | k + 6, hq => simp [vwCl] at hq
  obtain ⟨cI, kI, oI, fI1, fI2, fI3⟩ := Cond.arrayClass_spec (hts _ (kG_in _ mG_4).1)
  obtain ⟨cZ, kZ, oZ, fZ1, fZ2, fZ3⟩ := Cond.arrayClass_spec (hts _ (kG_in _ mG_324).1)
  have hover : (Cond.arrayOver (.object RX1)).before #[Value.ref b] s = true := hts _ (by decide +kernel)
  obtain ⟨oS, cS, kS, fS1, fS2, fS3, fS4, fS5⟩ := Cond.arrayOver_spec hover
  have hN : kN s := ⟨va_Nw.of rfl (hts _ (by decide +kernel)), va_Nw.of rfl (hts _ (by decide +kernel)), va_Nw.of rfl (hts _ (by decide +kernel)), va_Nw.of rfl (hts _ (by decide +kernel)), va_Nw.of rfl (hts _ (by decide +kernel)), va_AO.of hover⟩
  have hK : va_K (dC, dI) vwCl (kT cI cZ cS) s := by
    refine ⟨hKc, fun k q hq => ?_⟩
    match k, hq with
    | 0, hq => cases hq; exact ⟨fun N z => ⟨(fun k h => by cases h), kI, fI2, oI, fI3⟩, fI1⟩
    | 1, hq => cases hq; exact ⟨fun N z => ⟨(fun k h => by cases h), kZ, fZ2, oZ, fZ3⟩, fZ1⟩
    | 2, hq => cases hq; exact ⟨fun N z => ⟨(fun k h => by cases h), kS, fS3, oS, fS4⟩, ⟨kS, oS, fS3, fS4, fS1, fS5⟩⟩
    | k + 3, hq => simp at hq
  have hS : va_S (LA s) s.heap s.heap [] := va_S.rf
  have hP : va_P (dC, dI) vwCl [] s.heap := fun k q h => by simp at h
  have hD : va_D (LA s) [] := ⟨fun i j p q h => by simp at h, fun k q h => by simp at h⟩
  have hl := lv_entry ([.ref b]) (n := 4) (Nat.le_of_ble_eq_true rfl)
  rw [lg_entry_eq]
  generalize (lg_sl ([.ref b]) ++ List.replicate (4 - (lg_sl ([.ref b])).length) Slot.unset).toArray = ls at hl ⊢
  have hl : lv_has ls 4 [(0, .ref b)] := hl
  refine va_new (ci := 4) (fs := [.null, .null, .null, .null]) (C := RX4) (T := TX4) (N := 4) hx hb hts (fun w h => (kG_in w (iG_4 w h)).1) tyX4 tyX4_ok hown (hts _ (kG_in _ mG_444).1) (hts _ (kG_in _ mG_445).1) (hts _ (kG_in _ mG_13).1) hK hP hD hS hA rfl (fun j hj => by rcases (show j = 0 ∨ j = 1 ∨ j = 2 ∨ j = 3 by omega) with rfl | rfl | rfl | rfl <;> rfl) (Nat.le_of_ble_eq_true rfl) (Nat.le_of_ble_eq_true rfl) dL_law_0 (fun qx H hP hD hS => ?_)
  have hP : va_P (dC, dI) vwCl ([(qx, .inr (4, [.null, .null, .null, .null]))] ++ []) H := hP
  have hD : va_D (LA s) ([(qx, .inr (4, [.null, .null, .null, .null]))] ++ []) := hD
  refine lv_dup hx hb dL_law_3 rfl ?_
  refine lcg (wc := [(qx, .inr (4, [.null, .null, .null, .null]))]) (wr := []) (va_runI (As := []) (rest := [.ref qx]) CF (k_X4_init l dC dI cI cZ cS qx H.size 0 a0 0 1023 0 0 0 0 (amap 0 12 (fun _ _ => 10) a0) a0 (amap 0 8 (fun _ _ => 8) a0) 0 0 0 0 0 0 0 0 (amap 0 12 (fun _ _ => 10) a0) a0 (fun _ => none) i4_eq) (cwI 0 hts (lGood (kgs mG_183)) rfl rfl rfl (hts _ (kG_in _ mG_13).1) (hts _ (kG_in _ mG_448).1) (hts _ (kG_in _ mG_449).1) rfl hd_X4_init ⟨Nat.le_of_ble_eq_true rfl, Nat.le_of_ble_eq_true rfl⟩) (kpS hK hN (vP_l hP) (vD_l hD)) rfl rfl hl.1 rfl (lv_room (Nat.le_of_ble_eq_true rfl)) dL_law_4 ⟨Nat.le_of_ble_eq_true rfl, Nat.le_of_ble_eq_true rfl⟩) hP hD hS hA (fun w1 H locs hw hP hD hS => ?_)
  obtain ⟨q0, q0sg, q1, q3, q3fi, q3to, q1ne, q2, q3w, q3fiw, q3tow, q4im, rfl⟩ := hw
  have hP : va_P (dC, dI) vwCl ((WX cI cS qx q0 q0sg q1 q3 q3fi q3to q1ne q2 q3w q3fiw q3tow q4im 0 a0 0 1023 0 0 0 0 (amap 0 12 (fun _ _ => 10) a0) a0 (amap 0 8 (fun _ _ => 8) a0) 0 0 0 0 0 0 0 0 (amap 0 12 (fun _ _ => 10) a0) a0 (fun _ => none))) H := hP
  have hD : va_D (LA s) ((WX cI cS qx q0 q0sg q1 q3 q3fi q3to q1ne q2 q3w q3fiw q3tow q4im 0 a0 0 1023 0 0 0 0 (amap 0 12 (fun _ _ => 10) a0) a0 (amap 0 8 (fun _ _ => 8) a0) 0 0 0 0 0 0 0 0 (amap 0 12 (fun _ _ => 10) a0) a0 (fun _ => none))) := hD
  refine lv_astore_n (lv' := [(1, .ref qx), (0, .ref b)]) hx hb dL_law_7 rfl hl (by decide) rfl (fun ls hl => ?_)
  refine va_new (ci := 5) (fs := [.null, .null, .null, .int (0 : Int32), .null, .int (0 : Int32), .null, .int (0 : Int32), .null, .int (0 : Int32), .int (0 : Int32), .int (0 : Int32), .int (0 : Int32), .null, .null, .null]) (C := RX5) (T := TX5) (N := 16) hx hb hts (fun w h => (kG_in w (iG_5 w h)).1) tyX5 tyX5_ok hown (hts _ (kG_in _ mG_446).1) (hts _ (kG_in _ mG_447).1) (hts _ (kG_in _ mG_332).1) hK hP hD hS hA rfl (fun j hj => by rcases (show j = 0 ∨ j = 1 ∨ j = 2 ∨ j = 3 ∨ j = 4 ∨ j = 5 ∨ j = 6 ∨ j = 7 ∨ j = 8 ∨ j = 9 ∨ j = 10 ∨ j = 11 ∨ j = 12 ∨ j = 13 ∨ j = 14 ∨ j = 15 by omega) with rfl | rfl | rfl | rfl | rfl | rfl | rfl | rfl | rfl | rfl | rfl | rfl | rfl | rfl | rfl | rfl <;> rfl) (Nat.le_of_ble_eq_true rfl) (Nat.le_of_ble_eq_true rfl) dL_law_8 (fun qm H hP hD hS => ?_)
  have hP : va_P (dC, dI) vwCl ((WX cI cS qx q0 q0sg q1 q3 q3fi q3to q1ne q2 q3w q3fiw q3tow q4im 0 a0 0 1023 0 0 0 0 (amap 0 12 (fun _ _ => 10) a0) a0 (amap 0 8 (fun _ _ => 8) a0) 0 0 0 0 0 0 0 0 (amap 0 12 (fun _ _ => 10) a0) a0 (fun _ => none)) ++ [(qm, .inr (5, [.null, .null, .null, .int (0 : Int32), .null, .int (0 : Int32), .null, .int (0 : Int32), .null, .int (0 : Int32), .int (0 : Int32), .int (0 : Int32), .int (0 : Int32), .null, .null, .null]))]) H := hP
  have hD : va_D (LA s) ((WX cI cS qx q0 q0sg q1 q3 q3fi q3to q1ne q2 q3w q3fiw q3tow q4im 0 a0 0 1023 0 0 0 0 (amap 0 12 (fun _ _ => 10) a0) a0 (amap 0 8 (fun _ _ => 8) a0) 0 0 0 0 0 0 0 0 (amap 0 12 (fun _ _ => 10) a0) a0 (fun _ => none)) ++ [(qm, .inr (5, [.null, .null, .null, .int (0 : Int32), .null, .int (0 : Int32), .null, .int (0 : Int32), .null, .int (0 : Int32), .int (0 : Int32), .int (0 : Int32), .int (0 : Int32), .null, .null, .null]))]) := hD
  have hP := vP_perm List.perm_append_comm hP
  have hD := vD_perm List.perm_append_comm hD
  refine lv_dup hx hb dL_law_11 rfl ?_
  refine lcg (wc := [(qm, .inr (5, [.null, .null, .null, .int (0 : Int32), .null, .int (0 : Int32), .null, .int (0 : Int32), .null, .int (0 : Int32), .int (0 : Int32), .int (0 : Int32), .int (0 : Int32), .null, .null, .null]))]) (wr := (WX cI cS qx q0 q0sg q1 q3 q3fi q3to q1ne q2 q3w q3fiw q3tow q4im 0 a0 0 1023 0 0 0 0 (amap 0 12 (fun _ _ => 10) a0) a0 (amap 0 8 (fun _ _ => 8) a0) 0 0 0 0 0 0 0 0 (amap 0 12 (fun _ _ => 10) a0) a0 (fun _ => none))) (va_runI (As := []) (rest := [.ref qm]) CF (k_X5_init l dC dI cI cZ cS qm H.size 0 0 0 0 0 0 0 (amap 0 12 (fun _ _ => 10) a0) a0 a0 (amap 0 8 (fun _ _ => 8) a0) a0 a0 a0 a0 a0 i5_eq) (cwI 0 hts (lGood (kgs mG_314)) rfl rfl rfl (hts _ (kG_in _ mG_332).1) (hts _ (kG_in _ mG_450).1) (hts _ (kG_in _ mG_451).1) rfl hd_X5_init ⟨Nat.le_of_ble_eq_true rfl, Nat.le_of_ble_eq_true rfl⟩) (kpS hK hN (vP_l hP) (vD_l hD)) rfl rfl hl.1 rfl (lv_room (Nat.le_of_ble_eq_true rfl)) dL_law_12 ⟨Nat.le_of_ble_eq_true rfl, Nat.le_of_ble_eq_true rfl⟩) hP hD hS hA (fun w1 H locs hw hP hD hS => ?_)
  obtain ⟨q5bk, q5nw, q5to, q5ne, q5st, q5pd, q5cn, q5ig, q5ik, rfl⟩ := hw
  have hP : va_P (dC, dI) vwCl ((WM cI cZ qm q5bk q5nw q5to q5ne q5st q5pd q5cn q5ig q5ik 0 0 0 0 0 0 0 (amap 0 12 (fun _ _ => 10) a0) a0 a0 (amap 0 8 (fun _ _ => 8) a0) a0 a0 a0 a0 a0) ++ (WX cI cS qx q0 q0sg q1 q3 q3fi q3to q1ne q2 q3w q3fiw q3tow q4im 0 a0 0 1023 0 0 0 0 (amap 0 12 (fun _ _ => 10) a0) a0 (amap 0 8 (fun _ _ => 8) a0) 0 0 0 0 0 0 0 0 (amap 0 12 (fun _ _ => 10) a0) a0 (fun _ => none))) H := hP
  have hD : va_D (LA s) ((WM cI cZ qm q5bk q5nw q5to q5ne q5st q5pd q5cn q5ig q5ik 0 0 0 0 0 0 0 (amap 0 12 (fun _ _ => 10) a0) a0 a0 (amap 0 8 (fun _ _ => 8) a0) a0 a0 a0 a0 a0) ++ (WX cI cS qx q0 q0sg q1 q3 q3fi q3to q1ne q2 q3w q3fiw q3tow q4im 0 a0 0 1023 0 0 0 0 (amap 0 12 (fun _ _ => 10) a0) a0 (amap 0 8 (fun _ _ => 8) a0) 0 0 0 0 0 0 0 0 (amap 0 12 (fun _ _ => 10) a0) a0 (fun _ => none))) := hD
  refine lv_astore_n (lv' := [(2, .ref qm), (1, .ref qx), (0, .ref b)]) hx hb dL_law_15 rfl hl (by decide) rfl (fun ls hl => ?_)
  refine lv_iconst (v := 0) hx hb dL_law_16 (by decide) ?_
  refine lv_istore_n (lv' := [(3, .int 0), (2, .ref qm), (1, .ref qx), (0, .ref b)]) hx hb dL_law_17 rfl hl (by decide) rfl (fun ls hl => ?_)
  have hP2 : va_P (dC, dI) vwCl ((WX cI cS qx q0 q0sg q1 q3 q3fi q3to q1ne q2 q3w q3fiw q3tow q4im 0 a0 0 1023 0 0 0 0 (amap 0 12 (fun _ _ => 10) a0) a0 (amap 0 8 (fun _ _ => 8) a0) 0 0 0 0 0 0 0 0 (amap 0 12 (fun _ _ => 10) a0) a0 (fun _ => none)) ++ ((WM cI cZ qm q5bk q5nw q5to q5ne q5st q5pd q5cn q5ig q5ik 0 0 0 0 0 0 0 (amap 0 12 (fun _ _ => 10) a0) a0 a0 (amap 0 8 (fun _ _ => 8) a0) a0 a0 a0 a0 a0) ++ ([] ++ []))) H := by rw [List.nil_append, List.append_nil]; exact vP_perm List.perm_append_comm hP
  have hD2 : va_D (LA s) ((WX cI cS qx q0 q0sg q1 q3 q3fi q3to q1ne q2 q3w q3fiw q3tow q4im 0 a0 0 1023 0 0 0 0 (amap 0 12 (fun _ _ => 10) a0) a0 (amap 0 8 (fun _ _ => 8) a0) 0 0 0 0 0 0 0 0 (amap 0 12 (fun _ _ => 10) a0) a0 (fun _ => none)) ++ ((WM cI cZ qm q5bk q5nw q5to q5ne q5st q5pd q5cn q5ig q5ik 0 0 0 0 0 0 0 (amap 0 12 (fun _ _ => 10) a0) a0 a0 (amap 0 8 (fun _ _ => 8) a0) a0 a0 a0 a0 a0) ++ ([] ++ []))) := by rw [List.nil_append, List.append_nil]; exact vD_perm List.perm_append_comm hD
  have hLI : LI dC dI cI cZ cS (LA s) 0 qx qm H := ⟨q0, q0sg, q1, q3, q3fi, q3to, q1ne, q2, q3w, q3fiw, q3tow, q4im, 0, a0, 0, 1023, 0, 0, 0, 0, (amap 0 12 (fun _ _ => 10) a0), a0, (amap 0 8 (fun _ _ => 8) a0), 0, 0, 0, 0, 0, 0, 0, 0, (amap 0 12 (fun _ _ => 10) a0), a0, fun _ => none, q5bk, q5nw, q5to, q5ne, q5st, q5pd, q5cn, q5ig, q5ik, 0, 0, 0, 0, 0, 0, 0, (amap 0 12 (fun _ _ => 10) a0), a0, a0, (amap 0 8 (fun _ _ => 8) a0), a0, a0, a0, a0, a0, [], [], CR_start, Or.inl ⟨rfl, rfl, rfl⟩, Or.inl ⟨rfl, rfl, rfl⟩, hP2, hD2⟩
  exact law_loop hL C0 hK hN (L + 1) 0 (Nat.zero_le L) (by omega) H _ ls hLI hS (lv_sub hl [3, 2, 1, 0] rfl)
set_option maxHeartbeats 4000000 in
theorem lw_walk (l : Launch) (b : Addr) (xs : List Int32) : MetFree l x (headSpec (Jvm.Cond.code x code maxLocals ret :: tables_1) room_1) (lw_P b xs) (fun _ _ _ _ _ => True) lw_Q := by
  refine MetFree.of_bodyS (code := code) (maxLocals := maxLocals) (ret := ret) (by decide) ?_ ?_
  · intro args s m h hn
    obtain ⟨meth, c, h1, h2, h3, h4, h5, h6, -, -⟩ := Cond.code_spec hn (atoms_spec (ws := Jvm.Cond.code x code maxLocals ret :: tables_1) h _ List.mem_cons_self)
    exact ⟨meth, c, h1, h2, h3, h4, h5, h6⟩
  · intro p e s m args below meth c s₁ B hml0 hP _
    obtain ⟨rfl, hx, hbd, hgv⟩ := hP
    obtain ⟨scr, harrAt, hlist, hof, hsmall⟩ := hx
    obtain ⟨hcb, hkn, -, -⟩ := State.arrayAt?_spec harrAt
    have hown : s.vm.findClass R_law = some m.cls := findClass_of_methodNamed B.named
    have hts0 : ∀ c ∈ (Jvm.Cond.code x code maxLocals ret :: tables_1), c.before #[Value.ref b] s = true := atoms_spec (ws := Jvm.Cond.code x code maxLocals ret :: tables_1) B.pre
    have hts : ∀ w ∈ lw_tbl, w.before #[Value.ref b] s = true := k2_hts_sels lw_privs (fun w hw => hts0 w (List.mem_cons_of_mem _ hw)) lw_privs_ok
    have hml : c.maxLocals = 4 := B.maxLocals_eq (hts0 _ List.mem_cons_self)
    have X₀ : Stand p l e room_1 s m #[Value.ref b] below meth c s₁ [] 0 0 := Stand.of_body B
    have hh0 : s₁.heap = s.heap := by rw [B.state]; rfl
    have hsz : scr.slots.size = xs.length := by rw [← Array.length_toList, hlist, List.length_map]
    have hval : ∀ j : Nat, j < xs.length → scr.slots[j]? = some (.int (xs.getD j 0)) := fun j hj => by
      rw [← Array.getElem?_toList, hlist]
      simp [hj]
    have hbl : b < s.heap.size := (Array.getElem?_eq_some_iff.mp hcb).1
    have hX : va_X b xs.length (fun j => xs.getD j 0) s s.heap := ⟨scr, hcb, hof, hkn, hsz, hval⟩
    have K : W p l e room_1 s m #[Value.ref b] below meth c s₁.heap [] 0 0 (lw_Z below #[Value.ref b] s) (entryFrame m ([Value.ref b] : List Value).toArray 4) := by
      rw [hh0]
      exact whole_start l hbd ⟨B.exec, B.bytes, B.returns, hml, hown, hts, hX, hbl, B.notSynchronized, hgv⟩
    obtain ⟨t, a1, o, b1, b2, b3⟩ := K s₁ rfl X₀
    exact ⟨t, o, a1, b1, b2, b3⟩
theorem lw_pre_spec {args : Array Value} {s : State} (h : (Jvm.Cond.and given_1 narrow_1).before args s = true) (hr : rest_1_c.before args s = true) : ∃ (b : Addr) (xs : List Int32), lw_P b xs args s := by
  have hs := flat_of_before _ h
  have hq := flat_of_before _ hr
  have hc : (Cond.count 1).before args s = true := hs _ (by decide +kernel)
  have harr : (Cond.arrayOf (.arg 0) .int).before args s = true := hs _ (by decide +kernel)
  have hle : (Cond.le (.length (.arg 0)) (.int 320)).before args s = true := hs _ (by decide +kernel)
  have hlen : (Cond.isInt (.length (.arg 0))).before args s = true := hq _ (by decide +kernel)
  have hall : (Cond.all (.arg 0) (.isInt (.elem (.arg 0) (.index 0)))).before args s = true := hq _ (by decide +kernel)
  obtain ⟨b, xs, hb, hx⟩ := State.ints_of_pre rfl harr hlen hall
  have hsm : xs.length < 2 ^ 31 := hx.choose_spec.2.2.2
  have hev : (Term.length (.arg 0)).eval args s none [] s = some (.int xs.length.toInt32) := hx.length_eval hb
  have hv := Cond.le_ints hev (show (Term.int 320).eval args s none [] s = some (.int 320) from rfl)
  have hd : xs.length.toInt32 ≤ 320 := by
    simpa [Cond.before, Cond.holds, hv] using hle
  have hN : xs.length ≤ 320 := (Int32.ofNat_le_ofNat hsm (by decide)).mp (show Int32.ofNat xs.length ≤ Int32.ofNat 320 from hd)
  exact ⟨b, xs, Cond.one_arg hc (show args[0]? = some (.ref b) from hb), hx, hN, h⟩
theorem lw_comes (l : Launch) : Comes l x (Jvm.Cond.code x code maxLocals ret :: tables_1) room_1 (fun tb e args s => Calls_1 tb e args s ∧ rest_1 tb e args s ∧ Pre_1 tb e args s)
    (fun _ _ args s o t => lw_Q args s o t) := by
  intro p e ha hc hk s m args below hf hfit hheap happ hpre
  obtain ⟨b, xs, hP⟩ := lw_pre_spec hpre.2.2 hpre.2.1
  obtain ⟨k, o, h1, h2, h3, hQ⟩ := lw_walk l b xs p e ha hc hk s m args below hf ((Spec.applies_iff_loose hf).mp happ).1 hP trivial
  exact ⟨k, o, h1, h2, h3, hQ⟩
theorem lw_frame {s t : State} {o : Outcome} {args : Array Value} (h : Framed s o t [] 600000 7302250) :
    Framed s o t (fieldLocs frame_1_writes args s ++ arrayLocs frame_1_arrays args s ++ staticLocs frame_1_statics s) 600000 7302250 := h
theorem lw_limb (L : Cond) (hL : ∀ (args : Array Value) (s t : State), L.after args s (.returned (some (.int 1))) t = true) :
    ArmFor flags0 classFile x code maxLocals ret World_1 tables_1 room_1 Calls_1 rest_1 Pre_1
      (fun tb e a s o t => postC L tb e a s o t ∧ Framed s o t (fieldLocs frame_1_writes a s ++ arrayLocs frame_1_arrays a s ++ staticLocs frame_1_statics s) 600000 7302250) := by
  intro l _ _ _ p e ha hc hk s m args below hf hfit hheap happ hpre
  obtain ⟨k, o, h1, h2, h3, rfl, hF⟩ := lw_comes l p e ha hc hk s m args below hf hfit hheap happ hpre
  exact ⟨k, _, h1, h2, h3, hL args s _, lw_frame hF⟩
theorem i_vc : Claimed_1_1 ∧ Claimed_1_2 := ⟨lw_limb limb_1_1 (fun args s t => by simp [limb_1_1, Cond.after, Cond.holds, Cond.value]), lw_limb limb_1_2 (fun args s t => Cond.after_iff.mpr (by
  first | (rw [show limb_1_2 = Cond.eq .result (.int 1) from rfl, Cond.eq_ints (x := 1) (y := 1) rfl rfl]; simp; done) | (simp [limb_1_2, Cond.value, Term.eval]; done)))⟩
