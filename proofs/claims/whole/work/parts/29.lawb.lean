/-! THE CLAIM OUT OF ONE WALK OF THE LAW'S BODY. Your part is whole_start (and what it stands on); all else here is the same for every law, but numbers. -/
def R_law : String := "SevenRoundsLaw"
def lw_P (b : Addr) (xs : List Int32) (args : Array Value) (s : State) : Prop := args = #[.ref b] ∧ s.IntsAt b xs ∧ xs.length ≤ 320 ∧ (Jvm.Cond.and given_1 narrow_1).before args s = true
def lw_Q (_ : Array Value) (s : State) (o : Outcome) (t : State) : Prop := o = .returned (some (.int 1)) ∧ Framed s o t [] 600000 7302250
def lw_Z (below : List Frame) (a : Array Value) (s : State) : State → Prop := fun t => ∃ o, t.status = .running ∧ Ended t below o ∧ lw_Q a s o t
/-- the law's own end, with 1 on the stack, nothing written that was there before, its room as the claim has it -/
theorem lw_ret {p : Program} {l : Launch} {e : Env} {s : State} {m : MethodId} {below : List Frame} {meth : Method} {c : Code} {b : Nat} (hx : p.tables.exec = Jvm.exec) (hb : c.code = code) (hr : meth.sig.returnType = ret) (hlocks : meth.locks = false) {pc : Nat} {H : Heap} {ls : Array Slot} (hdg : decode code pc = .ok (.ireturn, 1)) : W p l e room_1 s m #[Value.ref b] below meth c H [] 600000 7302250 (lw_Z below #[Value.ref b] s) (F0 m pc ls [.int 1]) := by
  intro T hT X
  obtain ⟨fs, hret, hrun, hended, hW, hframe⟩ := X.leave (v := some (.int 1)) (hlocks := hlocks) (fun h => by rw [hr] at h; cases h)
  have hmeth' : T.vm.method? m = some meth := X.method'
  refine ⟨T.setFrames fs, ?_, .returned (some (.int 1)), hrun, hended, rfl, ⟨_, rfl⟩, hW, hframe⟩
  jvm_step X.here [X.here.top, hx, hb, hdg, hmeth', hr, ret, narrow_b1]
  (try refine ⟨rfl, ?_⟩); (try refine ⟨rfl, ?_⟩)
  first | (intro acts; rw [hret _ acts rfl rfl rfl]) | rw [hret _ _ rfl rfl rfl]
  exact Steps.refl _
/-- what holds at the law's entry: the machine, the code, the tables' words (any of lw_tbl by 'hts w (by decide +kernel)'), the script of L ints xs at the cell b, what the Statement gives of the start (any of its parts by flat_of_before) -/
def lw_At (p : Program) (s : State) (m : MethodId) (meth : Method) (c : Code) (b L : Nat) (xs : Nat → Int32) : Prop :=
  p.tables.exec = Jvm.exec ∧ c.code = code ∧ meth.sig.returnType = ret ∧ c.maxLocals = 4 ∧ s.vm.findClass R_law = some m.cls ∧ (∀ w ∈ lw_tbl, w.before #[Value.ref b] s = true) ∧ va_X b L xs s s.heap ∧ b < s.heap.size ∧ meth.locks = false ∧ (Jvm.Cond.and given_1 narrow_1).before #[Value.ref b] s = true
def WX (cI cS : ClassId) (q4 q0 q0sg q1 q3 q3fi q3to q1ne q2 q3w q3fiw q3tow q4im : Nat) (ct : Int32) (sg : Ar) (si : Int32) (ft : Int32) (th : Int32) (he : Int32) (ma : Int32) (ro : Int32) (fi : Ar) (to : Ar) (ne : Ar) (ac : Int32) (wy : Int32) (fa : Int32) (fp : Int32) (thw : Int32) (hew : Int32) (maw : Int32) (row : Int32) (fiw : Ar) (tow : Ar) (im : Nat → Option Nat) : va_W := [(q4, .inr (4, [.ref q0, .ref q1, .ref q2, .ref q4im])), (q0, .inr (0, [.ref q0sg, .int ct])), (q0sg, .inl (cI, 60, .inl sg)), (q1, .inr (1, [.ref q3, .ref q1ne, .int si, .int ft])), (q3, .inr (3, [.ref q3fi, .ref q3to, .int th, .int he, .int ma, .int ro])), (q3fi, .inl (cI, 12, .inl fi)), (q3to, .inl (cI, 12, .inl to)), (q1ne, .inl (cI, 8, .inl ne)), (q2, .inr (2, [.ref q3w, .int ac, .int wy, .int fa, .int fp])), (q3w, .inr (3, [.ref q3fiw, .ref q3tow, .int thw, .int hew, .int maw, .int row])), (q3fiw, .inl (cI, 12, .inl fiw)), (q3tow, .inl (cI, 12, .inl tow)), (q4im, .inl (cS, 2, .inr (.inr (.inr (.inr im)))))]
def WM (cI cZ : ClassId) (q5 q5bk q5nw q5to q5ne q5st q5pd q5cn q5ig q5ik : Nat) (th : Int32) (si : Int32) (sn : Int32) (re : Int32) (ac : Int32) (fa : Int32) (fw : Int32) (bk : Ar) (nw : Ar) (to : Ar) (ne : Ar) (st : Ar) (pd : Ar) (cn : Ar) (ig : Ar) (ik : Ar) : va_W := [(q5, .inr (5, [.ref q5bk, .ref q5nw, .ref q5to, .int th, .ref q5ne, .int si, .ref q5st, .int sn, .ref q5pd, .int re, .int ac, .int fa, .int fw, .ref q5cn, .ref q5ig, .ref q5ik])), (q5bk, .inl (cI, 15, .inl bk)), (q5nw, .inl (cI, 15, .inl nw)), (q5to, .inl (cI, 12, .inl to)), (q5ne, .inl (cI, 8, .inl ne)), (q5st, .inl (cI, 16, .inl st)), (q5pd, .inl (cI, 60, .inl pd)), (q5cn, .inl (cI, 3, .inl cn)), (q5ig, .inl (cI, 120, .inl ig)), (q5ik, .inl (cZ, 2, .inl ik))]
def WI (cI : ClassId) (q1i q3i q3fii q3toi q1nei : Nat) (sii : Int32) (fti : Int32) (thi : Int32) (hei : Int32) (mai : Int32) (roi : Int32) (fii : Ar) (toi : Ar) (nei : Ar) : va_W := [(q1i, .inr (1, [.ref q3i, .ref q1nei, .int sii, .int fti])), (q3i, .inr (3, [.ref q3fii, .ref q3toi, .int thi, .int hei, .int mai, .int roi])), (q3fii, .inl (cI, 12, .inl fii)), (q3toi, .inl (cI, 12, .inl toi)), (q1nei, .inl (cI, 8, .inl nei))]
/-- an image of slot n: none, or its five cells -/
def IW (cI : ClassId) (n : Nat) (im : Nat → Option Nat) (zig zik : Ar) (w : va_W) : Prop := (w = [] ∧ im n = none ∧ zik n = 0) ∨ ∃ (q1i q3i q3fii q3toi q1nei : Nat) (sii : Int32) (fti : Int32) (thi : Int32) (hei : Int32) (mai : Int32) (roi : Int32) (fii : Ar) (toi : Ar) (nei : Ar), w = (WI cI q1i q3i q3fii q3toi q1nei sii fti thi hei mai roi fii toi nei) ∧ im n = some q1i ∧ zik n = 1 ∧ RI n sii fti thi hei mai roi fii toi nei zig
/-- what holds at the loop: both sides, the images of slot n first -/
def LI (dC : Nat → ClassId) (dI : Nat → Nat → Nat) (cI cZ cS : ClassId) (A : Nat → Prop) (n qx qm : Nat) (H : Heap) : Prop := ∃ (q0 q0sg q1 q3 q3fi q3to q1ne q2 q3w q3fiw q3tow q4im : Nat) (ct : Int32) (sg : Ar) (si : Int32) (ft : Int32) (th : Int32) (he : Int32) (ma : Int32) (ro : Int32) (fi : Ar) (to : Ar) (ne : Ar) (ac : Int32) (wy : Int32) (fa : Int32) (fp : Int32) (thw : Int32) (hew : Int32) (maw : Int32) (row : Int32) (fiw : Ar) (tow : Ar) (im : Nat → Option Nat) (q5bk q5nw q5to q5ne q5st q5pd q5cn q5ig q5ik : Nat) (zth : Int32) (zsi : Int32) (zsn : Int32) (zre : Int32) (zac : Int32) (zfa : Int32) (zfw : Int32) (zbk : Ar) (znw : Ar) (zto : Ar) (zne : Ar) (zst : Ar) (zpd : Ar) (zcn : Ar) (zig : Ar) (zik : Ar) (wa wb : va_W), CR ct sg si ft th he ma ro fi to ne zth zsi zsn zbk zto zne zst zpd ∧ IW cI n im zig zik wa ∧ IW cI (1 - n) im zig zik wb ∧ va_P (dC, dI) vwCl ((WX cI cS qx q0 q0sg q1 q3 q3fi q3to q1ne q2 q3w q3fiw q3tow q4im ct sg si ft th he ma ro fi to ne ac wy fa fp thw hew maw row fiw tow im) ++ ((WM cI cZ qm q5bk q5nw q5to q5ne q5st q5pd q5cn q5ig q5ik zth zsi zsn zre zac zfa zfw zbk znw zto zne zst zpd zcn zig zik) ++ (wa ++ wb))) H ∧ va_D A ((WX cI cS qx q0 q0sg q1 q3 q3fi q3to q1ne q2 q3w q3fiw q3tow q4im ct sg si ft th he ma ro fi to ne ac wy fa fp thw hew maw row fiw tow im) ++ ((WM cI cZ qm q5bk q5nw q5to q5ne q5st q5pd q5cn q5ig q5ik zth zsi zsn zre zac zfa zfw zbk znw zto zne zst zpd zcn zig zik) ++ (wa ++ wb)))
theorem vD_iff {A : Nat → Prop} {ws : va_W} : va_D A ws ↔ ws.Pairwise (fun p q => p.1 ≠ q.1) ∧ ∀ q ∈ ws, A q.1 := by
  constructor
  · intro h
    refine ⟨?_, fun q hq => ?_⟩
    · rw [List.pairwise_iff_getElem]
      intro i j hi hj hij q
      have := h.1 i j _ _ (List.getElem?_eq_getElem hi) (List.getElem?_eq_getElem hj) q
      omega
    · obtain ⟨k, hk⟩ := List.getElem?_of_mem hq
      exact h.2 k q hk
  · rintro ⟨h1, h2⟩
    rw [List.pairwise_iff_getElem] at h1
    refine ⟨fun i j p q hp hq e => ?_, fun k q hk => h2 q (List.mem_of_getElem? hk)⟩
    obtain ⟨hi, ei⟩ := List.getElem?_eq_some_iff.mp hp
    obtain ⟨hj, ej⟩ := List.getElem?_eq_some_iff.mp hq
    rcases Nat.lt_trichotomy i j with h | h | h
    · exact absurd (by rw [ei, ej]; exact e) (h1 i j hi hj h)
    · exact h
    · exact absurd (by rw [ei, ej]; exact e.symm) (h1 j i hj hi h)
theorem vP_iff {D : va_G} {cl : List vw_C} {ws : va_W} {H : Heap} : va_P D cl ws H ↔ ∀ q ∈ ws, va_at D cl q H := by
  constructor
  · intro h q hq
    obtain ⟨k, hk⟩ := List.getElem?_of_mem hq
    exact h k q hk
  · exact fun h k q hk => h q (List.mem_of_getElem? hk)
theorem vD_perm {A : Nat → Prop} {a b : va_W} (h : a.Perm b) (hD : va_D A a) : va_D A b := by
  rw [vD_iff] at hD ⊢
  exact ⟨(h.pairwise_iff (fun q => Ne.symm q)).mp hD.1, fun q hq => hD.2 q (h.mem_iff.mpr hq)⟩
theorem vP_perm {D : va_G} {cl : List vw_C} {a b : va_W} {H : Heap} (h : a.Perm b) (hP : va_P D cl a H) : va_P D cl b H := by
  rw [vP_iff] at hP ⊢
  exact fun q hq => hP q (h.mem_iff.mpr hq)
theorem pm1 (a b c : va_W) : (a ++ (b ++ c)).Perm (b ++ (a ++ c)) := by
  rw [← List.append_assoc, ← List.append_assoc]
  exact List.Perm.append_right _ List.perm_append_comm
theorem pm2 (a b c d : va_W) : (a ++ (b ++ (c ++ d))).Perm (a ++ (b ++ (d ++ c))) := List.Perm.append_left _ (List.Perm.append_left _ List.perm_append_comm)
/-- the image's cells beside the class's -/
theorem pm3 (a b c d : va_W) : (a ++ (b ++ (c ++ d))).Perm ((a ++ c) ++ (b ++ d)) := by
  rw [List.append_assoc]
  exact List.Perm.append_left _ (pm1 b c d)
theorem vP_l {D : va_G} {cl : List vw_C} {a b : va_W} {H : Heap} (hP : va_P D cl (a ++ b) H) : va_P D cl a H := vP_iff.mpr (fun q hq => vP_iff.mp hP q (List.mem_append_left _ hq))
theorem vD_l {A : Nat → Prop} {a b : va_W} (hD : va_D A (a ++ b)) : va_D A a := by
  rw [vD_iff] at hD ⊢
  exact ⟨(List.pairwise_append.mp hD.1).1, fun q hq => hD.2 q (List.mem_append_left _ hq)⟩
theorem w_free {A : Nat → Prop} {wc wr : va_W} {H0 H : Heap} {locs : List Loc} (hD : va_D A (wc ++ wr)) (hS : va_S A H0 H locs) (hA : ∀ q, H0.size ≤ q → A q) : ∀ q, va_A wc H.size q → A q := by
  intro q h
  rcases h with ⟨k, e, h⟩ | h
  · exact (vD_iff.mp hD).2 (q, e) (List.mem_append_left _ (List.mem_of_getElem? h))
  · exact hA q (Nat.le_trans hS.1 h)
theorem w_join {A : Nat → Prop} {D : va_G} {wc wr w1 : va_W} {H0 H H1 : Heap} {locs : List Loc} (hP : va_P D vwCl (wc ++ wr) H) (hD : va_D A (wc ++ wr)) (hS : va_S A H0 H locs) (hA : ∀ q, H0.size ≤ q → A q) (hk : ∀ q : Nat, q < H.size → ¬ va_A wc H.size q → H1[q]? = H[q]?) (hP1 : va_P D vwCl w1 H1) (hD1 : va_D (va_A wc H.size) w1) : va_P D vwCl (w1 ++ wr) H1 ∧ va_D A (w1 ++ wr) := by
  have hF := w_free hD hS hA
  rw [vP_iff] at hP
  rw [vD_iff] at hD
  obtain ⟨hD2, hD3⟩ := hD
  obtain ⟨-, hr2, hr3⟩ := List.pairwise_append.mp hD2
  have apart : ∀ q ∈ wr, q.1 < H.size ∧ ¬ va_A wc H.size q.1 := by
    intro q hq
    have hlt := (hP q (List.mem_append_right _ hq)).lt
    refine ⟨hlt, fun h => ?_⟩
    rcases h with ⟨k, e, h⟩ | h
    · exact hr3 _ (List.mem_of_getElem? h) q hq rfl
    · omega
  have hPr : va_P D vwCl wr H := vP_iff.mpr (fun q hq => hP q (List.mem_append_right _ hq))
  have hPr1 : va_P D vwCl wr H1 := hPr.kept (fun k x hx => hk x.1 (apart x (List.mem_of_getElem? hx)).1 (apart x (List.mem_of_getElem? hx)).2)
  refine ⟨hP1.app hPr1, ?_⟩
  rw [vD_iff] at hD1 ⊢
  refine ⟨List.pairwise_append.mpr ⟨hD1.1, hr2, fun x hx y hy e => ?_⟩, fun q hq => ?_⟩
  · exact (apart y hy).2 (e ▸ hD1.2 x hx)
  · rcases List.mem_append.mp hq with h | h
    · exact hF _ (hD1.2 q h)
    · exact hD3 q (List.mem_append_right _ h)
section LC
variable {p : Program} {l : Launch} {e : Env} {R : Room} {s : State} {m : MethodId} {args : Array Value} {below : List Frame} {meth : Method} {c : Code} {H : Heap} {locs : List Loc} {cells slots mc ms : Nat} {Q : State → Prop}
variable {pc : Nat} {ls : Array Slot} {rest st0 : List Value} {a : Array Value} {A : Nat → Prop} {H0 : Heap} {D : va_G} {wc wr w1 : va_W} {Ws : va_W → Prop}
theorem lci {r0 : Int32} (hr : va_Run p l e R s m args below meth c H locs cells slots 0 0 (F0 m pc ls st0) rest (kQi D wc w1 H.size r0 a) (va_A wc H.size)) (hP : va_P D vwCl (wc ++ wr) H) (hD : va_D A (wc ++ wr)) (hS : va_S A H0 H locs) (hA : ∀ q, H0.size ≤ q → A q)
    (kk : ∀ (H1 : Heap) (locs1 : List Loc), va_P D vwCl (w1 ++ wr) H1 → va_D A (w1 ++ wr) → va_S A H0 H1 locs1 → W p l e R s m args below meth c H1 locs1 cells slots Q (F0 m (pc + 3) ls (.int r0 :: rest))) : W p l e R s m args below meth c H locs cells slots Q (F0 m pc ls st0) := by
  have hF := w_free hD hS hA
  refine va_calli hr hS (fun q _ h => hF q h) hF (fun r u t H1 locs1 ht hvm hw hB1 hz1 hk1 hS1 => ?_)
  subst hw
  subst ht
  obtain ⟨h1, h2⟩ := w_join hP hD hS hA hk1 hB1.1 hB1.2
  exact kk _ _ h1 h2 hS1
theorem lcl {r0 : Int64} (hr : va_Run p l e R s m args below meth c H locs cells slots 0 0 (F0 m pc ls st0) rest (kQl D wc w1 H.size r0 a) (va_A wc H.size)) (hP : va_P D vwCl (wc ++ wr) H) (hD : va_D A (wc ++ wr)) (hS : va_S A H0 H locs) (hA : ∀ q, H0.size ≤ q → A q)
    (kk : ∀ (H1 : Heap) (locs1 : List Loc), va_P D vwCl (w1 ++ wr) H1 → va_D A (w1 ++ wr) → va_S A H0 H1 locs1 → W p l e R s m args below meth c H1 locs1 cells slots Q (F0 m (pc + 3) ls (.long r0 :: rest))) : W p l e R s m args below meth c H locs cells slots Q (F0 m pc ls st0) := by
  have hF := w_free hD hS hA
  refine va_calll hr hS (fun q _ h => hF q h) hF (fun r u t H1 locs1 ht hvm hw hB1 hz1 hk1 hS1 => ?_)
  subst hw
  subst ht
  obtain ⟨h1, h2⟩ := w_join hP hD hS hA hk1 hB1.1 hB1.2
  exact kk _ _ h1 h2 hS1
theorem lch {r0 : Int32} (hr : va_Run p l e R s m args below meth c H locs cells slots mc ms (F0 m pc ls st0) rest (kQh D wc Ws H.size r0 a) (va_A wc H.size)) (hP : va_P D vwCl (wc ++ wr) H) (hD : va_D A (wc ++ wr)) (hS : va_S A H0 H locs) (hA : ∀ q, H0.size ≤ q → A q)
    (kk : ∀ (w1 : va_W) (H1 : Heap) (locs1 : List Loc), Ws w1 → va_P D vwCl (w1 ++ wr) H1 → va_D A (w1 ++ wr) → va_S A H0 H1 locs1 → W p l e R s m args below meth c H1 locs1 (cells + mc) (slots + ms) Q (F0 m (pc + 3) ls (.int r0 :: rest))) : W p l e R s m args below meth c H locs cells slots Q (F0 m pc ls st0) := by
  have hF := w_free hD hS hA
  refine va_calli hr hS (fun q _ h => hF q h) hF (fun r u t H1 locs1 ht hvm hw hB1 hz1 hk1 hS1 => ?_)
  subst hw
  subst ht
  obtain ⟨w1, hw1, hP1, hD1⟩ := hB1
  obtain ⟨h1, h2⟩ := w_join hP hD hS hA hk1 hP1 hD1
  exact kk w1 _ _ hw1 h1 h2 hS1
theorem lcg (hr : va_Run p l e R s m args below meth c H locs cells slots mc ms (F0 m pc ls st0) rest (kQg D wc Ws H.size a) (va_A wc H.size)) (hP : va_P D vwCl (wc ++ wr) H) (hD : va_D A (wc ++ wr)) (hS : va_S A H0 H locs) (hA : ∀ q, H0.size ≤ q → A q)
    (kk : ∀ (w1 : va_W) (H1 : Heap) (locs1 : List Loc), Ws w1 → va_P D vwCl (w1 ++ wr) H1 → va_D A (w1 ++ wr) → va_S A H0 H1 locs1 → W p l e R s m args below meth c H1 locs1 (cells + mc) (slots + ms) Q (F0 m (pc + 3) ls rest)) : W p l e R s m args below meth c H locs cells slots Q (F0 m pc ls st0) := by
  have hF := w_free hD hS hA
  refine va_callv hr hS (fun q _ h => hF q h) hF (fun u t H1 locs1 ht hvm hw hB1 hz1 hk1 hS1 => ?_)
  subst ht
  obtain ⟨w1, hw1, hP1, hD1⟩ := hB1
  obtain ⟨h1, h2⟩ := w_join hP hD hS hA hk1 hP1 hD1
  exact kk w1 _ _ hw1 h1 h2 hS1
end LC
theorem lcmp_same (r : Int64) : lg_cmp r r = 0 := by
  unfold lg_cmp
  simp
theorem lGood {ws : List Cond} (h : ∀ w ∈ ws, w ∈ kG) : GoodIn lw_tbl ws := fun w hw => kG_in w (h w hw)
abbrev LA (s : State) : Nat → Prop := fun q : Nat => s.heap.size ≤ q
section LR
variable {p : Program} {l : Launch} {e : Env} {s : State} {m : MethodId} {below : List Frame} {meth : Method} {c : Code} {H : Heap} {locs : List Loc} {cells slots : Nat} {Q : State → Prop} {b L i qx qm pc : Nat} {xs : Nat → Int32} {ls : Array Slot} {rest : List Value}
/-- a number of the script: script[i + k] -/
theorem rd (hx : p.tables.exec = Jvm.exec) (hb : c.code = code) (hX : va_X b L xs s s.heap) (hbl : b < s.heap.size) (hS : va_S (LA s) s.heap H locs) (hl : lv_has ls 4 [(0, .ref b), (1, .ref qx), (2, .ref qm), (3, .int (nI i))]) (k : Nat) {kI : Int} (hkI : Int32.ofInt kI = nI k) (hlt : i + k < L) (hL : L ≤ 320)
    (d0 : decode code pc = .ok (.aload_n 0, 1)) (d1 : decode code (pc + 1) = .ok (.iload_n 3, 1)) (d2 : decode code (pc + 2) = .ok (.iconst kI, 1)) (d3 : decode code (pc + 3) = .ok (.iadd, 1)) (d4 : decode code (pc + 4) = .ok (.iaload, 1))
    (kk : W p l e room_1 s m #[Value.ref b] below meth c H locs cells slots Q (F0 m (pc + 5) ls (.int (xs (i + k)) :: rest))) : W p l e room_1 s m #[Value.ref b] below meth c H locs cells slots Q (F0 m pc ls rest) := by
  refine lv_aload_n hx hb d0 rfl (lv_at hl 0 rfl) ?_
  refine lv_iload_n hx hb d1 rfl (lv_at hl 3 rfl) ?_
  refine lv_iconst hx hb d2 hkI ?_
  refine lv_iadd hx hb d3 ?_
  rw [nI_add]
  refine va_sld hx hb hX hbl (Nat.not_le.mpr hbl) hS (vp_in_nI hlt (by omega)) d4 ?_
  rw [nI_clamp (by omega)]
  exact kk
/-- a flag of the script: script[i + k] != 0 -/
theorem rdb (hx : p.tables.exec = Jvm.exec) (hb : c.code = code) (hX : va_X b L xs s s.heap) (hbl : b < s.heap.size) (hS : va_S (LA s) s.heap H locs) (hl : lv_has ls 4 [(0, .ref b), (1, .ref qx), (2, .ref qm), (3, .int (nI i))]) (k : Nat) {kI : Int} (hkI : Int32.ofInt kI = nI k) (hlt : i + k < L) (hL : L ≤ 320)
    (d0 : decode code pc = .ok (.aload_n 0, 1)) (d1 : decode code (pc + 1) = .ok (.iload_n 3, 1)) (d2 : decode code (pc + 2) = .ok (.iconst kI, 1)) (d3 : decode code (pc + 3) = .ok (.iadd, 1)) (d4 : decode code (pc + 4) = .ok (.iaload, 1))
    (d5 : decode code (pc + 5) = .ok (.ifCond .eq 7, 3)) (d6 : decode code (pc + 8) = .ok (.iconst 1, 1)) (d7 : decode code (pc + 9) = .ok (.goto 4, 3)) (d8 : decode code (pc + 12) = .ok (.iconst 0, 1))
    (kk : W p l e room_1 s m #[Value.ref b] below meth c H locs cells slots Q (F0 m (pc + 13) ls (.int (if xs (i + k) = 0 then 0 else 1) :: rest))) : W p l e room_1 s m #[Value.ref b] below meth c H locs cells slots Q (F0 m pc ls rest) := by
  refine rd hx hb hX hbl hS hl k hkI hlt hL d0 d1 d2 d3 d4 ?_
  refine lv_if_eq (tgt := pc + 12) hx hb d5 (by omega) (fun q => ?_) (fun q => ?_)
  · rw [if_pos q] at kk
    refine lv_iconst (v := 0) hx hb d8 (by decide) ?_
    exact kk
  · rw [if_neg q] at kk
    refine lv_iconst (v := 1) hx hb d6 (by decide) ?_
    refine lv_goto (tgt := pc + 13) hx hb d7 (by omega) ?_
    exact kk
end LR
theorem LI_flip {dC : Nat → ClassId} {dI : Nat → Nat → Nat} {cI cZ cS : ClassId} {A : Nat → Prop} {n qx qm : Nat} {H : Heap} (hn : n < 2) (h : LI dC dI cI cZ cS A n qx qm H) : LI dC dI cI cZ cS A (1 - n) qx qm H := by
  obtain ⟨q0, q0sg, q1, q3, q3fi, q3to, q1ne, q2, q3w, q3fiw, q3tow, q4im, ct, sg, si, ft, th, he, ma, ro, fi, to, ne, ac, wy, fa, fp, thw, hew, maw, row, fiw, tow, im, q5bk, q5nw, q5to, q5ne, q5st, q5pd, q5cn, q5ig, q5ik, zth, zsi, zsn, zre, zac, zfa, zfw, zbk, znw, zto, zne, zst, zpd, zcn, zig, zik, wa, wb, h1, h2, h3, h4, h5⟩ := h
  refine ⟨q0, q0sg, q1, q3, q3fi, q3to, q1ne, q2, q3w, q3fiw, q3tow, q4im, ct, sg, si, ft, th, he, ma, ro, fi, to, ne, ac, wy, fa, fp, thw, hew, maw, row, fiw, tow, im, q5bk, q5nw, q5to, q5ne, q5st, q5pd, q5cn, q5ig, q5ik, zth, zsi, zsn, zre, zac, zfa, zfw, zbk, znw, zto, zne, zst, zpd, zcn, zig, zik, wb, wa, h1, h3, ?_, vP_perm (pm2 _ _ _ _) h4, vD_perm (pm2 _ _ _ _) h5⟩
  rw [show 1 - (1 - n) = n by omega]
  exact h2
