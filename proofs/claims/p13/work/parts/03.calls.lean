/-! Contracts over the heap map: what a method gets and gives; how one is entered, called, left. -/
def hw_Pc (g : hw_G) (as : List Value) (ws : va_W) (sz : Nat) : Array Value → State → Prop := va_Pc as (fun U => U.heap.size = sz ∧ va_P g.1 vwCl ws U.heap ∧ va_K g.1 vwCl (hw_tys g) U ∧ va_D (fun _ => True) ws ∧ hw_E g (va_A ws sz) U U.heap)
def hw_B (g : hw_G) (A : Nat → Prop) : hw_H → State → Prop := fun w t => ∃ ws : va_W, hw_rep ws w ∧ va_P g.1 vwCl ws t.heap ∧ va_K g.1 vwCl (hw_tys g) t ∧ va_D A ws
def hw_Mi (l : Launch) (g : hw_G) (y : MethodName) (wc : List Cond) (rm : Room) (as : List Value) (w : hw_H) (post : Int32 → hw_H → Prop) : Prop := ∀ (ws : va_W) (sz : Nat), hw_rep ws w → Met l y wc rm (hw_Pc g as ws sz) (va_Qi post (hw_B g (va_A ws sz)) (va_A ws sz)) rm.cells rm.slots (va_A ws sz)
def hw_Mv (l : Launch) (g : hw_G) (y : MethodName) (wc : List Cond) (rm : Room) (as : List Value) (w : hw_H) (post : hw_H → Prop) : Prop := ∀ (ws : va_W) (sz : Nat), hw_rep ws w → Met l y wc rm (hw_Pc g as ws sz) (va_Qv post (hw_B g (va_A ws sz)) (va_A ws sz)) rm.cells rm.slots (va_A ws sz)
def hw_Mq (l : Launch) (g : hw_G) (y : MethodName) (wc : List Cond) (rm : Room) (as : List Value) (w : hw_H) (post : Option Nat → hw_H → Prop) : Prop := ∀ (ws : va_W) (sz : Nat), hw_rep ws w → Met l y wc rm (hw_Pc g as ws sz) (va_Qq post (hw_B g (va_A ws sz)) (va_A ws sz)) rm.cells rm.slots (va_A ws sz)
theorem hw_blind (g : hw_G) (as : List Value) (ws : va_W) (sz : Nat) : FrameBlind (hw_Pc g as ws sz) := fun a U gf mk q => by
  obtain ⟨q0, q1, qP, qK, qD, qE⟩ := q
  exact ⟨q0, q1, qP, va_K.moved (u := U) (U := U.calling gf mk a) (Vm.Alike.refl U.vm) qK, qD, hw_E_same (U := U.calling gf mk a) qE rfl⟩
/-- the rooms: by how deep a method calls -/
def hw_R (d mc ms : Nat) : Room := { frames := d, cells := mc, slots := ms, locals := 40 * d }
theorem hw_R_ok {d d' mc ms mc' ms' L : Nat} (h : d' < d) (hL : L ≤ 21) : (hw_R d' mc' ms').frames + 1 ≤ (hw_R d mc ms).frames ∧ 8 + (L + 11) + (hw_R d' mc' ms').locals ≤ (hw_R d mc ms).locals := by
  refine ⟨h, ?_⟩
  show 8 + (L + 11) + 40 * d' ≤ 40 * d
  omega
section HC
variable {p : Program} {l : Launch} {e : Env} {R : Room} {s : State} {m : MethodId} {args : Array Value} {below : List Frame} {meth : Method} {c : Code} {Q : State → Prop} {cc : ByteArray} {nL : Nat} {Ts : List Cond} {own : String} {g : hw_G} {A : Nat → Prop} {k n pc : Nat} {lv : List (Option Value)} {st st0 : List Value} {w : hw_H}
variable {y : MethodName} {bytes : ByteArray} {maxL nargs index : Nat} {ret : Option FieldType} {wc : List Cond} {C : String}
/-- evidence for a call, whatever room is asked -/
def hw_YV (s : State) (args : Array Value) (own : String) (index : Nat) (C : String) (y : MethodName) (bytes : ByteArray) (maxL : Nat) (ret : Option FieldType) (wc : List Cond) (nargs : Nat) : Prop := ∀ (R rm : Room), rm.frames + 1 ≤ R.frames → 8 + (maxL + 11) + rm.locals ≤ R.locals → (CallW R s args own C index y bytes maxL ret wc rm rm.cells rm.slots nargs ∨ ∃ host : String, va_CN R s args own index y host bytes maxL ret wc rm rm.cells rm.slots nargs ∧ (Cond.instanceMethod y).before args s = true ∧ (Cond.selects C y y).before args s = true)
def hw_YS (s : State) (args : Array Value) (own : String) (index : Nat) (y : MethodName) (bytes : ByteArray) (maxL : Nat) (ret : Option FieldType) (wc : List Cond) (nargs : Nat) : Prop := ∀ (R rm : Room), rm.frames + 1 ≤ R.frames → 8 + (maxL + 11) + rm.locals ≤ R.locals → ((CallB R s args own index y bytes maxL ret wc rm rm.cells rm.slots nargs ∧ (Cond.static y).before args s = true) ∨ ∃ host : String, va_CN R s args own index y host bytes maxL ret wc rm rm.cells rm.slots nargs ∧ (Cond.static y).before args s = true ∧ True)
def hw_YI (s : State) (args : Array Value) (own : String) (index : Nat) (y : MethodName) (bytes : ByteArray) (maxL : Nat) (wc : List Cond) (nargs : Nat) : Prop := ∀ (R rm : Room), rm.frames + 1 ≤ R.frames → 8 + (maxL + 11) + rm.locals ≤ R.locals → ((CallB R s args own index y bytes maxL none wc rm rm.cells rm.slots nargs ∧ y.name = "<init>" ∧ (Cond.instanceMethod y).before args s = true) ∨ ∃ host : String, va_CN R s args own index y host bytes maxL none wc rm rm.cells rm.slots nargs ∧ y.name = "<init>" ∧ (Cond.instanceMethod y).before args s = true)
theorem hw_L_size {ls : Array Slot} (h : hw_L ls nL lv) : ls.size = nL := by
  obtain ⟨l9, h1, -⟩ := h
  exact h1.1
theorem hw_freeA {H : Heap} {locs : List Loc} {ws : va_W} (X : hw_X p m c cc nL s args Ts own g A) (h4 : va_D A ws) (h5 : va_S A s.heap H locs) : ∀ q, va_A ws H.size q → A q := by
  intro q h
  rcases h with ⟨i, e0, h⟩ | h
  · exact h4.2 i _ h
  · exact X.2.2.1 q (Nat.le_trans h5.1 h)
theorem hw_preS {H : Heap} {locs : List Loc} {ws : va_W} {as : List Value} (X : hw_X p m c cc nL s args Ts own g A) (h3 : va_P g.1 vwCl ws H) (h4 : va_D A ws) (h5 : va_S A s.heap H locs) : PreS s H (hw_Pc g as ws H.size) as :=
  ⟨hw_blind g as ws H.size, fun U hU hW => ⟨rfl, by rw [hU], by rw [hU]; exact h3, va_K.moved hW.alike X.2.1, h4.weaken (fun _ _ _ _ => trivial), by rw [hU]; exact hw_E_warm X.2.2.2 hW h5.2.1 (hw_freeA X h4 h5)⟩⟩
theorem hw_recv {H : Heap} {ws : va_W} {b : Nat} (X : hw_X p m c cc nL s args Ts own g A) (h2 : hw_rep ws w) (h3 : va_P g.1 vwCl ws H) (hb : ∃ (ci : Nat) (r : vw_C) (fs : List Value), w b = some (.inr (ci, fs)) ∧ vwCl[ci]? = some r ∧ r.1 = C) : ∃ cell : Cell, H[b]? = some cell ∧ cell.vm.isStatics = false ∧ s.vm.findClass C = some cell.cls := by
  obtain ⟨ci, r, fs, e1, e2, rfl⟩ := hb
  obtain ⟨q0, hq⟩ := List.getElem?_of_mem ((h2 _ _).mp e1)
  exact va_recv X.2.1 h3 e2 hq
theorem hw_callVi (X : hw_X p m c cc nL s args Ts own g A) {rm : Room} {b : Nat} {As : List Value} {post : Int32 → hw_H → Prop} (Y : hw_YV s args own index C y bytes maxL ret wc nargs) (M : hw_Mi l g y wc rm (.ref b :: As) w post) (hlen : As.length = nargs) (hfr : rm.frames + 1 ≤ R.frames ∧ 8 + (maxL + 11) + rm.locals ≤ R.locals) (hce : k + rm.cells ≤ R.cells ∧ n + rm.slots ≤ R.slots) (hb : ∃ (ci : Nat) (r : vw_C) (fs : List Value), w b = some (.inr (ci, fs)) ∧ vwCl[ci]? = some r ∧ r.1 = C) (hst : (st.map fun v => v.category).sum ≤ 8) (hs0 : st0 = As.reverse ++ .ref b :: st) (d : decode cc pc = .ok (.invokevirtual index, 3)) (kk : ∀ (x : Int32) (w9 : hw_H), post x w9 → hw_J p l e R s m args below meth c Q nL g A (k + rm.cells) (n + rm.slots) (pc + 3) lv (.int x :: st) w9) : hw_J p l e R s m args below meth c Q nL g A k n pc lv st0 w := by
  intro H locs ls ws h1 h2 h3 h4 h5
  have hfree := hw_freeA X h4 h5
  have hM := M ws H.size h2
  have hpre := hw_preS (as := .ref b :: As) X h3 h4 h5
  have hpv : PreV s H C b (hw_Pc g (.ref b :: As) ws H.size) As := ⟨hpre.1, hw_recv X h2 h3 hb, hpre.2⟩
  rcases Y R rm hfr.1 hfr.2 with cw | ⟨host, cw⟩
  · refine va_calli (va_runV X.1 hM cw hpv rfl hlen (hw_L_size h1) hs0 (lv_room hst) d hce) h5 (fun q _ h => hfree q h) hfree (fun r w9 t H1 locs1 ht hvm hp hB hz hk1 hS1 => ?_)
    obtain ⟨ws9, r1, r2, r3, r4⟩ := hB
    exact kk r w9 hp H1 locs1 ls ws9 h1 r1 (ht ▸ r2) (r4.weaken (fun _ _ _ h => hfree _ h)) hS1
  · refine va_calli (va_runVN X.1 hM cw hpv rfl hlen (hw_L_size h1) hs0 (lv_room hst) d hce) h5 (fun q _ h => hfree q h) hfree (fun r w9 t H1 locs1 ht hvm hp hB hz hk1 hS1 => ?_)
    obtain ⟨ws9, r1, r2, r3, r4⟩ := hB
    exact kk r w9 hp H1 locs1 ls ws9 h1 r1 (ht ▸ r2) (r4.weaken (fun _ _ _ h => hfree _ h)) hS1
theorem hw_callVsi (X : hw_X p m c cc nL s args Ts own g A) {rm : Room} {i : Nat} {As : List Value} {post : Int32 → hw_H → Prop} (Y : hw_YV s args own index "java/lang/String" y bytes maxL ret wc nargs) (M : hw_Mi l g y wc rm (.ref (g.2.2.1 i) :: As) w post) (hlen : As.length = nargs) (hfr : rm.frames + 1 ≤ R.frames ∧ 8 + (maxL + 11) + rm.locals ≤ R.locals) (hce : k + rm.cells ≤ R.cells ∧ n + rm.slots ≤ R.slots) (hi : i < hw_sN) (hst : (st.map fun v => v.category).sum ≤ 8) (hs0 : st0 = As.reverse ++ .ref (g.2.2.1 i) :: st) (d : decode cc pc = .ok (.invokevirtual index, 3)) (kk : ∀ (x : Int32) (w9 : hw_H), post x w9 → hw_J p l e R s m args below meth c Q nL g A (k + rm.cells) (n + rm.slots) (pc + 3) lv (.int x :: st) w9) : hw_J p l e R s m args below meth c Q nL g A k n pc lv st0 w := by
  intro H locs ls ws h1 h2 h3 h4 h5
  have hfree := hw_freeA X h4 h5
  have hM := M ws H.size h2
  have hpre := hw_preS (as := .ref (g.2.2.1 i) :: As) X h3 h4 h5
  have hpv : PreV s H "java/lang/String" (g.2.2.1 i) (hw_Pc g (.ref (g.2.2.1 i) :: As) ws H.size) As := ⟨hpre.1, vk_recv X.2.2.2.2.1 hi h5, hpre.2⟩
  rcases Y R rm hfr.1 hfr.2 with cw | ⟨host, cw⟩
  · refine va_calli (va_runV X.1 hM cw hpv rfl hlen (hw_L_size h1) hs0 (lv_room hst) d hce) h5 (fun q _ h => hfree q h) hfree (fun r w9 t H1 locs1 ht hvm hp hB hz hk1 hS1 => ?_)
    obtain ⟨ws9, r1, r2, r3, r4⟩ := hB
    exact kk r w9 hp H1 locs1 ls ws9 h1 r1 (ht ▸ r2) (r4.weaken (fun _ _ _ h => hfree _ h)) hS1
  · refine va_calli (va_runVN X.1 hM cw hpv rfl hlen (hw_L_size h1) hs0 (lv_room hst) d hce) h5 (fun q _ h => hfree q h) hfree (fun r w9 t H1 locs1 ht hvm hp hB hz hk1 hS1 => ?_)
    obtain ⟨ws9, r1, r2, r3, r4⟩ := hB
    exact kk r w9 hp H1 locs1 ls ws9 h1 r1 (ht ▸ r2) (r4.weaken (fun _ _ _ h => hfree _ h)) hS1
theorem hw_callSi (X : hw_X p m c cc nL s args Ts own g A) {rm : Room} {As : List Value} {post : Int32 → hw_H → Prop} (Y : hw_YS s args own index y bytes maxL ret wc nargs) (M : hw_Mi l g y wc rm As w post) (hlen : As.length = nargs) (hfr : rm.frames + 1 ≤ R.frames ∧ 8 + (maxL + 11) + rm.locals ≤ R.locals) (hce : k + rm.cells ≤ R.cells ∧ n + rm.slots ≤ R.slots) (hst : (st.map fun v => v.category).sum ≤ 8) (hs0 : st0 = As.reverse ++ st) (d : decode cc pc = .ok (.invokestatic index, 3)) (kk : ∀ (x : Int32) (w9 : hw_H), post x w9 → hw_J p l e R s m args below meth c Q nL g A (k + rm.cells) (n + rm.slots) (pc + 3) lv (.int x :: st) w9) : hw_J p l e R s m args below meth c Q nL g A k n pc lv st0 w := by
  intro H locs ls ws h1 h2 h3 h4 h5
  have hfree := hw_freeA X h4 h5
  have hM := M ws H.size h2
  have hpre := hw_preS (as := As) X h3 h4 h5
  rcases Y R rm hfr.1 hfr.2 with cw | ⟨host, cw⟩
  · refine va_calli (va_runS X.1 hM cw hpre rfl hlen (hw_L_size h1) hs0 (lv_room hst) d hce) h5 (fun q _ h => hfree q h) hfree (fun r w9 t H1 locs1 ht hvm hp hB hz hk1 hS1 => ?_)
    obtain ⟨ws9, r1, r2, r3, r4⟩ := hB
    exact kk r w9 hp H1 locs1 ls ws9 h1 r1 (ht ▸ r2) (r4.weaken (fun _ _ _ h => hfree _ h)) hS1
  · refine va_calli (va_runSN X.1 hM cw hpre rfl hlen (hw_L_size h1) hs0 (lv_room hst) d hce) h5 (fun q _ h => hfree q h) hfree (fun r w9 t H1 locs1 ht hvm hp hB hz hk1 hS1 => ?_)
    obtain ⟨ws9, r1, r2, r3, r4⟩ := hB
    exact kk r w9 hp H1 locs1 ls ws9 h1 r1 (ht ▸ r2) (r4.weaken (fun _ _ _ h => hfree _ h)) hS1
theorem hw_callVv (X : hw_X p m c cc nL s args Ts own g A) {rm : Room} {b : Nat} {As : List Value} {post : hw_H → Prop} (Y : hw_YV s args own index C y bytes maxL ret wc nargs) (M : hw_Mv l g y wc rm (.ref b :: As) w post) (hlen : As.length = nargs) (hfr : rm.frames + 1 ≤ R.frames ∧ 8 + (maxL + 11) + rm.locals ≤ R.locals) (hce : k + rm.cells ≤ R.cells ∧ n + rm.slots ≤ R.slots) (hb : ∃ (ci : Nat) (r : vw_C) (fs : List Value), w b = some (.inr (ci, fs)) ∧ vwCl[ci]? = some r ∧ r.1 = C) (hst : (st.map fun v => v.category).sum ≤ 8) (hs0 : st0 = As.reverse ++ .ref b :: st) (d : decode cc pc = .ok (.invokevirtual index, 3)) (kk : ∀ (w9 : hw_H), post w9 → hw_J p l e R s m args below meth c Q nL g A (k + rm.cells) (n + rm.slots) (pc + 3) lv st w9) : hw_J p l e R s m args below meth c Q nL g A k n pc lv st0 w := by
  intro H locs ls ws h1 h2 h3 h4 h5
  have hfree := hw_freeA X h4 h5
  have hM := M ws H.size h2
  have hpre := hw_preS (as := .ref b :: As) X h3 h4 h5
  have hpv : PreV s H C b (hw_Pc g (.ref b :: As) ws H.size) As := ⟨hpre.1, hw_recv X h2 h3 hb, hpre.2⟩
  rcases Y R rm hfr.1 hfr.2 with cw | ⟨host, cw⟩
  · refine va_callv (va_runV X.1 hM cw hpv rfl hlen (hw_L_size h1) hs0 (lv_room hst) d hce) h5 (fun q _ h => hfree q h) hfree (fun w9 t H1 locs1 ht hvm hp hB hz hk1 hS1 => ?_)
    obtain ⟨ws9, r1, r2, r3, r4⟩ := hB
    exact kk w9 hp H1 locs1 ls ws9 h1 r1 (ht ▸ r2) (r4.weaken (fun _ _ _ h => hfree _ h)) hS1
  · refine va_callv (va_runVN X.1 hM cw hpv rfl hlen (hw_L_size h1) hs0 (lv_room hst) d hce) h5 (fun q _ h => hfree q h) hfree (fun w9 t H1 locs1 ht hvm hp hB hz hk1 hS1 => ?_)
    obtain ⟨ws9, r1, r2, r3, r4⟩ := hB
    exact kk w9 hp H1 locs1 ls ws9 h1 r1 (ht ▸ r2) (r4.weaken (fun _ _ _ h => hfree _ h)) hS1
theorem hw_callVsv (X : hw_X p m c cc nL s args Ts own g A) {rm : Room} {i : Nat} {As : List Value} {post : hw_H → Prop} (Y : hw_YV s args own index "java/lang/String" y bytes maxL ret wc nargs) (M : hw_Mv l g y wc rm (.ref (g.2.2.1 i) :: As) w post) (hlen : As.length = nargs) (hfr : rm.frames + 1 ≤ R.frames ∧ 8 + (maxL + 11) + rm.locals ≤ R.locals) (hce : k + rm.cells ≤ R.cells ∧ n + rm.slots ≤ R.slots) (hi : i < hw_sN) (hst : (st.map fun v => v.category).sum ≤ 8) (hs0 : st0 = As.reverse ++ .ref (g.2.2.1 i) :: st) (d : decode cc pc = .ok (.invokevirtual index, 3)) (kk : ∀ (w9 : hw_H), post w9 → hw_J p l e R s m args below meth c Q nL g A (k + rm.cells) (n + rm.slots) (pc + 3) lv st w9) : hw_J p l e R s m args below meth c Q nL g A k n pc lv st0 w := by
  intro H locs ls ws h1 h2 h3 h4 h5
  have hfree := hw_freeA X h4 h5
  have hM := M ws H.size h2
  have hpre := hw_preS (as := .ref (g.2.2.1 i) :: As) X h3 h4 h5
  have hpv : PreV s H "java/lang/String" (g.2.2.1 i) (hw_Pc g (.ref (g.2.2.1 i) :: As) ws H.size) As := ⟨hpre.1, vk_recv X.2.2.2.2.1 hi h5, hpre.2⟩
  rcases Y R rm hfr.1 hfr.2 with cw | ⟨host, cw⟩
  · refine va_callv (va_runV X.1 hM cw hpv rfl hlen (hw_L_size h1) hs0 (lv_room hst) d hce) h5 (fun q _ h => hfree q h) hfree (fun w9 t H1 locs1 ht hvm hp hB hz hk1 hS1 => ?_)
    obtain ⟨ws9, r1, r2, r3, r4⟩ := hB
    exact kk w9 hp H1 locs1 ls ws9 h1 r1 (ht ▸ r2) (r4.weaken (fun _ _ _ h => hfree _ h)) hS1
  · refine va_callv (va_runVN X.1 hM cw hpv rfl hlen (hw_L_size h1) hs0 (lv_room hst) d hce) h5 (fun q _ h => hfree q h) hfree (fun w9 t H1 locs1 ht hvm hp hB hz hk1 hS1 => ?_)
    obtain ⟨ws9, r1, r2, r3, r4⟩ := hB
    exact kk w9 hp H1 locs1 ls ws9 h1 r1 (ht ▸ r2) (r4.weaken (fun _ _ _ h => hfree _ h)) hS1
theorem hw_callSv (X : hw_X p m c cc nL s args Ts own g A) {rm : Room} {As : List Value} {post : hw_H → Prop} (Y : hw_YS s args own index y bytes maxL ret wc nargs) (M : hw_Mv l g y wc rm As w post) (hlen : As.length = nargs) (hfr : rm.frames + 1 ≤ R.frames ∧ 8 + (maxL + 11) + rm.locals ≤ R.locals) (hce : k + rm.cells ≤ R.cells ∧ n + rm.slots ≤ R.slots) (hst : (st.map fun v => v.category).sum ≤ 8) (hs0 : st0 = As.reverse ++ st) (d : decode cc pc = .ok (.invokestatic index, 3)) (kk : ∀ (w9 : hw_H), post w9 → hw_J p l e R s m args below meth c Q nL g A (k + rm.cells) (n + rm.slots) (pc + 3) lv st w9) : hw_J p l e R s m args below meth c Q nL g A k n pc lv st0 w := by
  intro H locs ls ws h1 h2 h3 h4 h5
  have hfree := hw_freeA X h4 h5
  have hM := M ws H.size h2
  have hpre := hw_preS (as := As) X h3 h4 h5
  rcases Y R rm hfr.1 hfr.2 with cw | ⟨host, cw⟩
  · refine va_callv (va_runS X.1 hM cw hpre rfl hlen (hw_L_size h1) hs0 (lv_room hst) d hce) h5 (fun q _ h => hfree q h) hfree (fun w9 t H1 locs1 ht hvm hp hB hz hk1 hS1 => ?_)
    obtain ⟨ws9, r1, r2, r3, r4⟩ := hB
    exact kk w9 hp H1 locs1 ls ws9 h1 r1 (ht ▸ r2) (r4.weaken (fun _ _ _ h => hfree _ h)) hS1
  · refine va_callv (va_runSN X.1 hM cw hpre rfl hlen (hw_L_size h1) hs0 (lv_room hst) d hce) h5 (fun q _ h => hfree q h) hfree (fun w9 t H1 locs1 ht hvm hp hB hz hk1 hS1 => ?_)
    obtain ⟨ws9, r1, r2, r3, r4⟩ := hB
    exact kk w9 hp H1 locs1 ls ws9 h1 r1 (ht ▸ r2) (r4.weaken (fun _ _ _ h => hfree _ h)) hS1
theorem hw_callIv (X : hw_X p m c cc nL s args Ts own g A) {rm : Room} {b : Nat} {As : List Value} {post : hw_H → Prop} (Y : hw_YI s args own index y bytes maxL wc nargs) (M : hw_Mv l g y wc rm (.ref b :: As) w post) (hlen : As.length = nargs) (hfr : rm.frames + 1 ≤ R.frames ∧ 8 + (maxL + 11) + rm.locals ≤ R.locals) (hce : k + rm.cells ≤ R.cells ∧ n + rm.slots ≤ R.slots) (hst : (st.map fun v => v.category).sum ≤ 8) (hs0 : st0 = As.reverse ++ .ref b :: st) (d : decode cc pc = .ok (.invokespecial index, 3)) (kk : ∀ (w9 : hw_H), post w9 → hw_J p l e R s m args below meth c Q nL g A (k + rm.cells) (n + rm.slots) (pc + 3) lv st w9) : hw_J p l e R s m args below meth c Q nL g A k n pc lv st0 w := by
  intro H locs ls ws h1 h2 h3 h4 h5
  have hfree := hw_freeA X h4 h5
  have hM := M ws H.size h2
  have hpre := hw_preS (as := .ref b :: As) X h3 h4 h5
  rcases Y R rm hfr.1 hfr.2 with cw | ⟨host, cw⟩
  · refine va_callv (va_runI X.1 hM cw hpre rfl hlen (hw_L_size h1) hs0 (lv_room hst) d hce) h5 (fun q _ h => hfree q h) hfree (fun w9 t H1 locs1 ht hvm hp hB hz hk1 hS1 => ?_)
    obtain ⟨ws9, r1, r2, r3, r4⟩ := hB
    exact kk w9 hp H1 locs1 ls ws9 h1 r1 (ht ▸ r2) (r4.weaken (fun _ _ _ h => hfree _ h)) hS1
  · refine va_callv (va_runIN X.1 hM cw hpre rfl hlen (hw_L_size h1) hs0 (lv_room hst) d hce) h5 (fun q _ h => hfree q h) hfree (fun w9 t H1 locs1 ht hvm hp hB hz hk1 hS1 => ?_)
    obtain ⟨ws9, r1, r2, r3, r4⟩ := hB
    exact kk w9 hp H1 locs1 ls ws9 h1 r1 (ht ▸ r2) (r4.weaken (fun _ _ _ h => hfree _ h)) hS1
theorem hw_callVq (X : hw_X p m c cc nL s args Ts own g A) {rm : Room} {b : Nat} {As : List Value} {post : Option Nat → hw_H → Prop} (Y : hw_YV s args own index C y bytes maxL ret wc nargs) (M : hw_Mq l g y wc rm (.ref b :: As) w post) (hlen : As.length = nargs) (hfr : rm.frames + 1 ≤ R.frames ∧ 8 + (maxL + 11) + rm.locals ≤ R.locals) (hce : k + rm.cells ≤ R.cells ∧ n + rm.slots ≤ R.slots) (hb : ∃ (ci : Nat) (r : vw_C) (fs : List Value), w b = some (.inr (ci, fs)) ∧ vwCl[ci]? = some r ∧ r.1 = C) (hst : (st.map fun v => v.category).sum ≤ 8) (hs0 : st0 = As.reverse ++ .ref b :: st) (d : decode cc pc = .ok (.invokevirtual index, 3)) (kk : ∀ (o : Option Nat) (w9 : hw_H), post o w9 → hw_J p l e R s m args below meth c Q nL g A (k + rm.cells) (n + rm.slots) (pc + 3) lv (va_rf o :: st) w9) : hw_J p l e R s m args below meth c Q nL g A k n pc lv st0 w := by
  intro H locs ls ws h1 h2 h3 h4 h5
  have hfree := hw_freeA X h4 h5
  have hM := M ws H.size h2
  have hpre := hw_preS (as := .ref b :: As) X h3 h4 h5
  have hpv : PreV s H C b (hw_Pc g (.ref b :: As) ws H.size) As := ⟨hpre.1, hw_recv X h2 h3 hb, hpre.2⟩
  rcases Y R rm hfr.1 hfr.2 with cw | ⟨host, cw⟩
  · refine va_callq (va_runV X.1 hM cw hpv rfl hlen (hw_L_size h1) hs0 (lv_room hst) d hce) h5 (fun q _ h => hfree q h) hfree (fun r w9 t H1 locs1 ht hvm hp hB hz hk1 hS1 => ?_)
    obtain ⟨ws9, r1, r2, r3, r4⟩ := hB
    exact kk r w9 hp H1 locs1 ls ws9 h1 r1 (ht ▸ r2) (r4.weaken (fun _ _ _ h => hfree _ h)) hS1
  · refine va_callq (va_runVN X.1 hM cw hpv rfl hlen (hw_L_size h1) hs0 (lv_room hst) d hce) h5 (fun q _ h => hfree q h) hfree (fun r w9 t H1 locs1 ht hvm hp hB hz hk1 hS1 => ?_)
    obtain ⟨ws9, r1, r2, r3, r4⟩ := hB
    exact kk r w9 hp H1 locs1 ls ws9 h1 r1 (ht ▸ r2) (r4.weaken (fun _ _ _ h => hfree _ h)) hS1
theorem hw_callVsq (X : hw_X p m c cc nL s args Ts own g A) {rm : Room} {i : Nat} {As : List Value} {post : Option Nat → hw_H → Prop} (Y : hw_YV s args own index "java/lang/String" y bytes maxL ret wc nargs) (M : hw_Mq l g y wc rm (.ref (g.2.2.1 i) :: As) w post) (hlen : As.length = nargs) (hfr : rm.frames + 1 ≤ R.frames ∧ 8 + (maxL + 11) + rm.locals ≤ R.locals) (hce : k + rm.cells ≤ R.cells ∧ n + rm.slots ≤ R.slots) (hi : i < hw_sN) (hst : (st.map fun v => v.category).sum ≤ 8) (hs0 : st0 = As.reverse ++ .ref (g.2.2.1 i) :: st) (d : decode cc pc = .ok (.invokevirtual index, 3)) (kk : ∀ (o : Option Nat) (w9 : hw_H), post o w9 → hw_J p l e R s m args below meth c Q nL g A (k + rm.cells) (n + rm.slots) (pc + 3) lv (va_rf o :: st) w9) : hw_J p l e R s m args below meth c Q nL g A k n pc lv st0 w := by
  intro H locs ls ws h1 h2 h3 h4 h5
  have hfree := hw_freeA X h4 h5
  have hM := M ws H.size h2
  have hpre := hw_preS (as := .ref (g.2.2.1 i) :: As) X h3 h4 h5
  have hpv : PreV s H "java/lang/String" (g.2.2.1 i) (hw_Pc g (.ref (g.2.2.1 i) :: As) ws H.size) As := ⟨hpre.1, vk_recv X.2.2.2.2.1 hi h5, hpre.2⟩
  rcases Y R rm hfr.1 hfr.2 with cw | ⟨host, cw⟩
  · refine va_callq (va_runV X.1 hM cw hpv rfl hlen (hw_L_size h1) hs0 (lv_room hst) d hce) h5 (fun q _ h => hfree q h) hfree (fun r w9 t H1 locs1 ht hvm hp hB hz hk1 hS1 => ?_)
    obtain ⟨ws9, r1, r2, r3, r4⟩ := hB
    exact kk r w9 hp H1 locs1 ls ws9 h1 r1 (ht ▸ r2) (r4.weaken (fun _ _ _ h => hfree _ h)) hS1
  · refine va_callq (va_runVN X.1 hM cw hpv rfl hlen (hw_L_size h1) hs0 (lv_room hst) d hce) h5 (fun q _ h => hfree q h) hfree (fun r w9 t H1 locs1 ht hvm hp hB hz hk1 hS1 => ?_)
    obtain ⟨ws9, r1, r2, r3, r4⟩ := hB
    exact kk r w9 hp H1 locs1 ls ws9 h1 r1 (ht ▸ r2) (r4.weaken (fun _ _ _ h => hfree _ h)) hS1
theorem hw_callSq (X : hw_X p m c cc nL s args Ts own g A) {rm : Room} {As : List Value} {post : Option Nat → hw_H → Prop} (Y : hw_YS s args own index y bytes maxL ret wc nargs) (M : hw_Mq l g y wc rm As w post) (hlen : As.length = nargs) (hfr : rm.frames + 1 ≤ R.frames ∧ 8 + (maxL + 11) + rm.locals ≤ R.locals) (hce : k + rm.cells ≤ R.cells ∧ n + rm.slots ≤ R.slots) (hst : (st.map fun v => v.category).sum ≤ 8) (hs0 : st0 = As.reverse ++ st) (d : decode cc pc = .ok (.invokestatic index, 3)) (kk : ∀ (o : Option Nat) (w9 : hw_H), post o w9 → hw_J p l e R s m args below meth c Q nL g A (k + rm.cells) (n + rm.slots) (pc + 3) lv (va_rf o :: st) w9) : hw_J p l e R s m args below meth c Q nL g A k n pc lv st0 w := by
  intro H locs ls ws h1 h2 h3 h4 h5
  have hfree := hw_freeA X h4 h5
  have hM := M ws H.size h2
  have hpre := hw_preS (as := As) X h3 h4 h5
  rcases Y R rm hfr.1 hfr.2 with cw | ⟨host, cw⟩
  · refine va_callq (va_runS X.1 hM cw hpre rfl hlen (hw_L_size h1) hs0 (lv_room hst) d hce) h5 (fun q _ h => hfree q h) hfree (fun r w9 t H1 locs1 ht hvm hp hB hz hk1 hS1 => ?_)
    obtain ⟨ws9, r1, r2, r3, r4⟩ := hB
    exact kk r w9 hp H1 locs1 ls ws9 h1 r1 (ht ▸ r2) (r4.weaken (fun _ _ _ h => hfree _ h)) hS1
  · refine va_callq (va_runSN X.1 hM cw hpre rfl hlen (hw_L_size h1) hs0 (lv_room hst) d hce) h5 (fun q _ h => hfree q h) hfree (fun r w9 t H1 locs1 ht hvm hp hB hz hk1 hS1 => ?_)
    obtain ⟨ws9, r1, r2, r3, r4⟩ := hB
    exact kk r w9 hp H1 locs1 ls ws9 h1 r1 (ht ▸ r2) (r4.weaken (fun _ _ _ h => hfree _ h)) hS1
theorem hw_objInit (X : hw_X p m c cc nL s args Ts own g A) {a idx : Nat} (hl : (Cond.methodLink own idx Lib.objectInit).before args s = true) (hi : (Cond.instanceMethod Lib.objectInit).before args s = true) (hc : (Cond.code Lib.objectInit ⟨#[0xb1]⟩ 1 none).before args s = true) (hf : 1 ≤ R.frames) (hlo : 20 ≤ R.locals) (hst : (st.map fun v => v.category).sum ≤ 8) (d : decode cc pc = .ok (.invokespecial idx, 3)) (kk : hw_J p l e R s m args below meth c Q nL g A k n (pc + 3) lv st w) : hw_J p l e R s m args below meth c Q nL g A k n pc lv (.ref a :: st) w := by
  intro H locs ls ws h1 h2 h3 h4 h5
  have h9 := lv_room (m := m) (pc := pc) (ls := ls) (rest := .ref a :: st) hst
  exact W.objInit X.1.1 X.1.2.1 X.1.2.2.2.1 hl hi hc rfl (by rw [X.1.2.2.1]; exact hw_L_size h1) rfl d hf (by omega) (kk H locs ls ws h1 h2 h3 h4 h5)
/-- leaving -/
theorem hw_reti (X : hw_X p m c cc nL s args Ts own g A) {mc ms : Nat} {post : Int32 → hw_H → Prop} {x : Int32} (hr : meth.sig.returnType = some .int) (hlk : meth.locks = false) (hk : k ≤ mc ∧ n ≤ ms) (hp : post x w) (d : decode cc pc = .ok (.ireturn, 1)) : hw_J p l e R s m args below meth c (MQ below (va_Qi post (hw_B g A) A) args s mc ms A) nL g A k n pc lv [.int x] w := by
  intro H locs ls ws h1 h2 h3 h4 h5
  refine W.widen hk.1 hk.2 ?_
  exact W.iret X.1.1 X.1.2.1 hr (fun t ht hW => ⟨⟨x, w, rfl, hp, ws, h2, by rw [ht]; exact h3, va_K.moved hW.alike X.2.1, h4⟩, h5.F ht⟩) h5.2.2 d hlk
theorem hw_retz (X : hw_X p m c cc nL s args Ts own g A) {mc ms : Nat} {post : Int32 → hw_H → Prop} {x : Int32} {ty : FieldType} (hr : meth.sig.returnType = some ty) (hx : narrow ty (.int x) = .int x) (hlk : meth.locks = false) (hk : k ≤ mc ∧ n ≤ ms) (hp : post x w) (d : decode cc pc = .ok (.ireturn, 1)) : hw_J p l e R s m args below meth c (MQ below (va_Qi post (hw_B g A) A) args s mc ms A) nL g A k n pc lv [.int x] w := by
  intro H locs ls ws h1 h2 h3 h4 h5
  refine W.widen hk.1 hk.2 ?_
  exact W.zret X.1.1 X.1.2.1 hr hx (fun t ht hW => ⟨⟨x, w, rfl, hp, ws, h2, by rw [ht]; exact h3, va_K.moved hW.alike X.2.1, h4⟩, h5.F ht⟩) h5.2.2 d hlk
theorem hw_retv (X : hw_X p m c cc nL s args Ts own g A) {mc ms : Nat} {post : hw_H → Prop} (hr : meth.sig.returnType = none) (hlk : meth.locks = false) (hk : k ≤ mc ∧ n ≤ ms) (hp : post w) (d : decode cc pc = .ok (.return_, 1)) : hw_J p l e R s m args below meth c (MQ below (va_Qv post (hw_B g A) A) args s mc ms A) nL g A k n pc lv [] w := by
  intro H locs ls ws h1 h2 h3 h4 h5
  refine W.widen hk.1 hk.2 ?_
  exact W.vret X.1.1 X.1.2.1 hr (fun t ht hW => ⟨⟨w, rfl, hp, ws, h2, by rw [ht]; exact h3, va_K.moved hW.alike X.2.1, h4⟩, h5.F ht⟩) h5.2.2 d hlk
theorem hw_retq (X : hw_X p m c cc nL s args Ts own g A) {mc ms : Nat} {post : Option Nat → hw_H → Prop} {o : Option Nat} {rt : String} (hr : meth.sig.returnType = some (.object rt)) (hlk : meth.locks = false) (hk : k ≤ mc ∧ n ≤ ms) (hp : post o w) (d : decode cc pc = .ok (.areturn, 1)) : hw_J p l e R s m args below meth c (MQ below (va_Qq post (hw_B g A) A) args s mc ms A) nL g A k n pc lv [va_rf o] w := by
  intro H locs ls ws h1 h2 h3 h4 h5
  refine W.widen hk.1 hk.2 ?_
  exact W.aret X.1.1 X.1.2.1 hr (Or.inl ⟨_, rfl⟩) (va_rf_or o) (fun t ht hW => ⟨⟨o, w, rfl, hp, ws, h2, by rw [ht]; exact h3, va_K.moved hW.alike X.2.1, h4⟩, h5.F ht⟩) h5.2.2 d hlk
theorem hw_L_entry {as : List Value} (hcat : ∀ v ∈ as, v.category = 1) {ls : Array Slot} (hl : lv_has ls maxL (lv_args 0 as)) {r : Nat} : hw_L ls maxL (as.map some ++ List.replicate r none) := by
  refine ⟨_, hl, fun i v h => ?_⟩
  by_cases hi : i < as.length
  · rw [List.getElem?_append_left (by simpa using hi), List.getElem?_map] at h
    cases ha : as[i]? with
    | none => rw [ha] at h; cases h
    | some u =>
      rw [ha] at h
      have hu : u = v := by simpa using h
      subst hu
      have h2 := hw_args_mem as 0 hcat i u ha
      rw [Nat.zero_add] at h2
      exact ⟨h2, hcat u (List.mem_of_getElem? ha)⟩
  · rw [List.getElem?_append_right (by simpa using hi), List.getElem?_replicate] at h
    split at h <;> cases h
/-- leaving, as the segments ask it -/
theorem hw_rti (X : hw_X p m c cc nL s args Ts own g A) (hr : meth.sig.returnType = some .int) (hlk : meth.locks = false) {mc ms : Nat} {post : Int32 → hw_H → Prop} : ∀ {k n pc : Nat} {lv : List (Option Value)} {x : Int32} {w : hw_H}, decode cc pc = .ok (.ireturn, 1) → ((k ≤ mc ∧ n ≤ ms) ∧ post x w) → hw_J p l e R s m args below meth c (MQ below (va_Qi post (hw_B g A) A) args s mc ms A) nL g A k n pc lv [.int x] w := fun d h => hw_reti X hr hlk h.1 h.2 d
theorem hw_rtz (X : hw_X p m c cc nL s args Ts own g A) (hr : meth.sig.returnType = some .boolean) (hlk : meth.locks = false) {mc ms : Nat} {post : Int32 → hw_H → Prop} : ∀ {k n pc : Nat} {lv : List (Option Value)} {x : Int32} {w : hw_H}, decode cc pc = .ok (.ireturn, 1) → ((k ≤ mc ∧ n ≤ ms) ∧ hw_b x ∧ post x w) → hw_J p l e R s m args below meth c (MQ below (va_Qi post (hw_B g A) A) args s mc ms A) nL g A k n pc lv [.int x] w := fun d h => hw_retz X hr (hw_b_nar h.2.1) hlk h.1 h.2.2 d
theorem hw_rtv (X : hw_X p m c cc nL s args Ts own g A) (hr : meth.sig.returnType = none) (hlk : meth.locks = false) {mc ms : Nat} {post : hw_H → Prop} : ∀ {k n pc : Nat} {lv : List (Option Value)} {w : hw_H}, decode cc pc = .ok (.return_, 1) → ((k ≤ mc ∧ n ≤ ms) ∧ post w) → hw_J p l e R s m args below meth c (MQ below (va_Qv post (hw_B g A) A) args s mc ms A) nL g A k n pc lv [] w := fun d h => hw_retv X hr hlk h.1 h.2 d
theorem hw_rtq (X : hw_X p m c cc nL s args Ts own g A) {rt : String} (hr : meth.sig.returnType = some (.object rt)) (hlk : meth.locks = false) {mc ms : Nat} {post : Option Nat → hw_H → Prop} : ∀ {k n pc : Nat} {lv : List (Option Value)} {o : Option Nat} {w : hw_H}, decode cc pc = .ok (.areturn, 1) → ((k ≤ mc ∧ n ≤ ms) ∧ post o w) → hw_J p l e R s m args below meth c (MQ below (va_Qq post (hw_B g A) A) args s mc ms A) nL g A k n pc lv [va_rf o] w := fun d h => hw_retq X hr hlk h.1 h.2 d
theorem hw_enteri {ws' : List Cond} {rm : Room} {as : List Value} {post : Int32 → hw_H → Prop} {r : Nat} (hy : plainName y.cls = true) (hw : wc = .code y bytes maxL ret :: ws') (hcat : ∀ v ∈ as, v.category = 1) (hlen : (lg_sl as).length ≤ maxL)
    (body : ∀ (p : Program) (e : Env) (s : State) (m : MethodId) (args : Array Value) (below : List Frame) (meth : Method) (c : Code) (A : Nat → Prop), hw_X p m c bytes maxL s args wc y.cls g A → meth.sig.returnType = ret → meth.locks = false → meth.name = y.name → hw_J p l e rm s m args below meth c (MQ below (va_Qi post (hw_B g A) A) args s rm.cells rm.slots A) maxL g A 0 0 0 (as.map some ++ List.replicate r none) [] w) : hw_Mi l g y wc rm as w post := by
  intro ws sz hrep
  refine Met.ofW (cc := bytes) (maxL := maxL) (ret := ret) hy hw ?_
  intro p e s m args below meth c s₁ B hml hv
  obtain ⟨rfl, hsz, hP, hK, hD0, hE⟩ := hv
  subst hsz
  have hts := atoms_spec (ws := wc) B.pre
  have hD := hD0.self (sz := s.heap.size)
  have hA : ∀ q : Nat, s.heap.size ≤ q → va_A ws s.heap.size q := fun q h => Or.inr h
  have X : hw_X p m c bytes maxL s as.toArray wc y.cls g (va_A ws s.heap.size) := ⟨⟨B.exec, B.bytes, hml, findClass_of_methodNamed B.named, hts⟩, hK, hA, hE⟩
  have hl := lv_entry as (n := maxL) hlen
  rw [lg_entry_eq]
  exact body p e s m _ below meth c _ X B.returns B.notSynchronized (name_of_methodNamed B.named B.method).1 s.heap [] _ ws (hw_L_entry hcat hl) hrep hP hD va_S.rf
theorem hw_enterv {ws' : List Cond} {rm : Room} {as : List Value} {post : hw_H → Prop} {r : Nat} (hy : plainName y.cls = true) (hw : wc = .code y bytes maxL ret :: ws') (hcat : ∀ v ∈ as, v.category = 1) (hlen : (lg_sl as).length ≤ maxL)
    (body : ∀ (p : Program) (e : Env) (s : State) (m : MethodId) (args : Array Value) (below : List Frame) (meth : Method) (c : Code) (A : Nat → Prop), hw_X p m c bytes maxL s args wc y.cls g A → meth.sig.returnType = ret → meth.locks = false → meth.name = y.name → hw_J p l e rm s m args below meth c (MQ below (va_Qv post (hw_B g A) A) args s rm.cells rm.slots A) maxL g A 0 0 0 (as.map some ++ List.replicate r none) [] w) : hw_Mv l g y wc rm as w post := by
  intro ws sz hrep
  refine Met.ofW (cc := bytes) (maxL := maxL) (ret := ret) hy hw ?_
  intro p e s m args below meth c s₁ B hml hv
  obtain ⟨rfl, hsz, hP, hK, hD0, hE⟩ := hv
  subst hsz
  have hts := atoms_spec (ws := wc) B.pre
  have hD := hD0.self (sz := s.heap.size)
  have hA : ∀ q : Nat, s.heap.size ≤ q → va_A ws s.heap.size q := fun q h => Or.inr h
  have X : hw_X p m c bytes maxL s as.toArray wc y.cls g (va_A ws s.heap.size) := ⟨⟨B.exec, B.bytes, hml, findClass_of_methodNamed B.named, hts⟩, hK, hA, hE⟩
  have hl := lv_entry as (n := maxL) hlen
  rw [lg_entry_eq]
  exact body p e s m _ below meth c _ X B.returns B.notSynchronized (name_of_methodNamed B.named B.method).1 s.heap [] _ ws (hw_L_entry hcat hl) hrep hP hD va_S.rf
theorem hw_enterq {ws' : List Cond} {rm : Room} {as : List Value} {post : Option Nat → hw_H → Prop} {r : Nat} (hy : plainName y.cls = true) (hw : wc = .code y bytes maxL ret :: ws') (hcat : ∀ v ∈ as, v.category = 1) (hlen : (lg_sl as).length ≤ maxL)
    (body : ∀ (p : Program) (e : Env) (s : State) (m : MethodId) (args : Array Value) (below : List Frame) (meth : Method) (c : Code) (A : Nat → Prop), hw_X p m c bytes maxL s args wc y.cls g A → meth.sig.returnType = ret → meth.locks = false → meth.name = y.name → hw_J p l e rm s m args below meth c (MQ below (va_Qq post (hw_B g A) A) args s rm.cells rm.slots A) maxL g A 0 0 0 (as.map some ++ List.replicate r none) [] w) : hw_Mq l g y wc rm as w post := by
  intro ws sz hrep
  refine Met.ofW (cc := bytes) (maxL := maxL) (ret := ret) hy hw ?_
  intro p e s m args below meth c s₁ B hml hv
  obtain ⟨rfl, hsz, hP, hK, hD0, hE⟩ := hv
  subst hsz
  have hts := atoms_spec (ws := wc) B.pre
  have hD := hD0.self (sz := s.heap.size)
  have hA : ∀ q : Nat, s.heap.size ≤ q → va_A ws s.heap.size q := fun q h => Or.inr h
  have X : hw_X p m c bytes maxL s as.toArray wc y.cls g (va_A ws s.heap.size) := ⟨⟨B.exec, B.bytes, hml, findClass_of_methodNamed B.named, hts⟩, hK, hA, hE⟩
  have hl := lv_entry as (n := maxL) hlen
  rw [lg_entry_eq]
  exact body p e s m _ below meth c _ X B.returns B.notSynchronized (name_of_methodNamed B.named B.method).1 s.heap [] _ ws (hw_L_entry hcat hl) hrep hP hD va_S.rf
/-- what a call asks of the heap, and what comes behind it -/
def hw_ci (l : Launch) (g : hw_G) (R : Room) (k n : Nat) (y : MethodName) (wc : List Cond) (maxL : Nat) (as : List Value) (w : hw_H) (KK : Nat → Nat → Int32 → hw_H → Prop) : Prop := ∃ (rm : Room) (post : Int32 → hw_H → Prop), hw_Mi l g y wc rm as w post ∧ (rm.frames + 1 ≤ R.frames ∧ 8 + (maxL + 11) + rm.locals ≤ R.locals) ∧ (k + rm.cells ≤ R.cells ∧ n + rm.slots ≤ R.slots) ∧ ∀ (x : Int32) (w9 : hw_H), post x w9 → KK (k + rm.cells) (n + rm.slots) x w9
def hw_cv (l : Launch) (g : hw_G) (R : Room) (k n : Nat) (y : MethodName) (wc : List Cond) (maxL : Nat) (as : List Value) (w : hw_H) (KK : Nat → Nat → hw_H → Prop) : Prop := ∃ (rm : Room) (post : hw_H → Prop), hw_Mv l g y wc rm as w post ∧ (rm.frames + 1 ≤ R.frames ∧ 8 + (maxL + 11) + rm.locals ≤ R.locals) ∧ (k + rm.cells ≤ R.cells ∧ n + rm.slots ≤ R.slots) ∧ ∀ (w9 : hw_H), post w9 → KK (k + rm.cells) (n + rm.slots) w9
def hw_cq (l : Launch) (g : hw_G) (R : Room) (k n : Nat) (y : MethodName) (wc : List Cond) (maxL : Nat) (as : List Value) (w : hw_H) (KK : Nat → Nat → Option Nat → hw_H → Prop) : Prop := ∃ (rm : Room) (post : Option Nat → hw_H → Prop), hw_Mq l g y wc rm as w post ∧ (rm.frames + 1 ≤ R.frames ∧ 8 + (maxL + 11) + rm.locals ≤ R.locals) ∧ (k + rm.cells ≤ R.cells ∧ n + rm.slots ≤ R.slots) ∧ ∀ (o : Option Nat) (w9 : hw_H), post o w9 → KK (k + rm.cells) (n + rm.slots) o w9
def hw_o (w : hw_H) (b : Nat) (C : String) : Prop := ∃ (ci : Nat) (r : vw_C) (fs : List Value), w b = some (.inr (ci, fs)) ∧ vwCl[ci]? = some r ∧ r.1 = C
def hw_sub : List (Option Value) → List (Option Value) → Prop
  | [], _ => True
  | none :: t, _ :: t' => True ∧ hw_sub t t'
  | some v :: t, some u :: t' => v = u ∧ hw_sub t t'
  | _, _ => False
theorem hw_sub_at : ∀ (a b : List (Option Value)), hw_sub a b → ∀ (i : Nat) (v : Value), a[i]? = some (some v) → b[i]? = some (some v) := by
  intro a
  induction a with
  | nil => intro b _ i v h; simp at h
  | cons x t ih =>
    intro b hb i v h
    cases b with
    | nil => cases x <;> exact hb.elim
    | cons z t2 =>
      cases x with
      | none =>
        cases i with
        | zero => simp at h
        | succ i =>
          rw [List.getElem?_cons_succ] at h ⊢
          exact ih t2 hb.2 i v h
      | some u =>
        cases z with
        | none => exact hb.elim
        | some u2 =>
          obtain ⟨h0, h1⟩ := hb
          cases i with
          | zero =>
            rw [List.getElem?_cons_zero] at h ⊢
            rw [← h0]
            exact h
          | succ i =>
            rw [List.getElem?_cons_succ] at h ⊢
            exact ih t2 h1 i v h
theorem hw_drop {lv9 : List (Option Value)} (hs : hw_sub lv9 lv) (kk : hw_J p l e R s m args below meth c Q nL g A k n pc lv9 st w) : hw_J p l e R s m args below meth c Q nL g A k n pc lv st w := by
  intro H locs ls ws h1 h2 h3 h4 h5
  obtain ⟨l9, g1, g2⟩ := h1
  exact kk H locs ls ws ⟨l9, g1, fun i v h => g2 i v (hw_sub_at _ _ hs i v h)⟩ h2 h3 h4 h5
theorem hw_oi1 (h : 1 ≤ R.frames ∧ 20 ≤ R.locals) : 1 ≤ R.frames := h.1
theorem hw_oi2 (h : 1 ≤ R.frames ∧ 20 ≤ R.locals) : 20 ≤ R.locals := h.2
theorem hw_rf_nar (C : String) (o : Option Nat) : narrow (.object C) (va_rf o) = va_rf o := by cases o <;> rfl
theorem hw_rf_fit (C : String) (o : Option Nat) : fits (.object C) (va_rf o) = true := by cases o <;> rfl
end HC
/-- a call of a method that makes nothing -/
theorem hw_ci_0 {d d' mc ms maxL k n : Nat} {l : Launch} {g : hw_G} {y : MethodName} {wc : List Cond} {as : List Value} {w : hw_H} {post : Int32 → hw_H → Prop} {KK : Nat → Nat → Int32 → hw_H → Prop} (hd : d' < d) (hL : maxL ≤ 21) (hM : hw_Mi l g y wc (hw_R d' 0 0) as w post) (hk : k ≤ mc) (hn : n ≤ ms) (kk : ∀ (x : Int32) (w9 : hw_H), post x w9 → KK k n x w9) : hw_ci l g (hw_R d mc ms) k n y wc maxL as w KK := ⟨hw_R d' 0 0, post, hM, hw_R_ok hd hL, ⟨hk, hn⟩, kk⟩
theorem hw_cv_0 {d d' mc ms maxL k n : Nat} {l : Launch} {g : hw_G} {y : MethodName} {wc : List Cond} {as : List Value} {w : hw_H} {post : hw_H → Prop} {KK : Nat → Nat → hw_H → Prop} (hd : d' < d) (hL : maxL ≤ 21) (hM : hw_Mv l g y wc (hw_R d' 0 0) as w post) (hk : k ≤ mc) (hn : n ≤ ms) (kk : ∀ (w9 : hw_H), post w9 → KK k n w9) : hw_cv l g (hw_R d mc ms) k n y wc maxL as w KK := ⟨hw_R d' 0 0, post, hM, hw_R_ok hd hL, ⟨hk, hn⟩, kk⟩
theorem hw_cq_0 {d d' mc ms maxL k n : Nat} {l : Launch} {g : hw_G} {y : MethodName} {wc : List Cond} {as : List Value} {w : hw_H} {post : Option Nat → hw_H → Prop} {KK : Nat → Nat → Option Nat → hw_H → Prop} (hd : d' < d) (hL : maxL ≤ 21) (hM : hw_Mq l g y wc (hw_R d' 0 0) as w post) (hk : k ≤ mc) (hn : n ≤ ms) (kk : ∀ (o : Option Nat) (w9 : hw_H), post o w9 → KK k n o w9) : hw_cq l g (hw_R d mc ms) k n y wc maxL as w KK := ⟨hw_R d' 0 0, post, hM, hw_R_ok hd hL, ⟨hk, hn⟩, kk⟩
/-- a call of a method that makes cells -/
theorem hw_ci_n {d d' mc ms mc' ms' maxL k n : Nat} {l : Launch} {g : hw_G} {y : MethodName} {wc : List Cond} {as : List Value} {w : hw_H} {post : Int32 → hw_H → Prop} {KK : Nat → Nat → Int32 → hw_H → Prop} (hd : d' < d) (hL : maxL ≤ 21) (hM : hw_Mi l g y wc (hw_R d' mc' ms') as w post) (hk : k + mc' ≤ mc) (hn : n + ms' ≤ ms) (kk : ∀ (x : Int32) (w9 : hw_H), post x w9 → KK (k + mc') (n + ms') x w9) : hw_ci l g (hw_R d mc ms) k n y wc maxL as w KK := ⟨hw_R d' mc' ms', post, hM, hw_R_ok hd hL, ⟨hk, hn⟩, kk⟩
theorem hw_cv_n {d d' mc ms mc' ms' maxL k n : Nat} {l : Launch} {g : hw_G} {y : MethodName} {wc : List Cond} {as : List Value} {w : hw_H} {post : hw_H → Prop} {KK : Nat → Nat → hw_H → Prop} (hd : d' < d) (hL : maxL ≤ 21) (hM : hw_Mv l g y wc (hw_R d' mc' ms') as w post) (hk : k + mc' ≤ mc) (hn : n + ms' ≤ ms) (kk : ∀ (w9 : hw_H), post w9 → KK (k + mc') (n + ms') w9) : hw_cv l g (hw_R d mc ms) k n y wc maxL as w KK := ⟨hw_R d' mc' ms', post, hM, hw_R_ok hd hL, ⟨hk, hn⟩, kk⟩
theorem hw_cq_n {d d' mc ms mc' ms' maxL k n : Nat} {l : Launch} {g : hw_G} {y : MethodName} {wc : List Cond} {as : List Value} {w : hw_H} {post : Option Nat → hw_H → Prop} {KK : Nat → Nat → Option Nat → hw_H → Prop} (hd : d' < d) (hL : maxL ≤ 21) (hM : hw_Mq l g y wc (hw_R d' mc' ms') as w post) (hk : k + mc' ≤ mc) (hn : n + ms' ≤ ms) (kk : ∀ (o : Option Nat) (w9 : hw_H), post o w9 → KK (k + mc') (n + ms') o w9) : hw_cq l g (hw_R d mc ms) k n y wc maxL as w KK := ⟨hw_R d' mc' ms', post, hM, hw_R_ok hd hL, ⟨hk, hn⟩, kk⟩
abbrev hw_Ji (p : Program) (l : Launch) (e : Env) (R : Room) (s : State) (m : MethodId) (args : Array Value) (below : List Frame) (meth : Method) (c : Code) (nL : Nat) (g : hw_G) (A : Nat → Prop) (post : Int32 → hw_H → Prop) : Nat → Nat → Nat → List (Option Value) → List Value → hw_H → Prop := hw_J p l e R s m args below meth c (MQ below (va_Qi post (hw_B g A) A) args s R.cells R.slots A) nL g A
abbrev hw_Jv (p : Program) (l : Launch) (e : Env) (R : Room) (s : State) (m : MethodId) (args : Array Value) (below : List Frame) (meth : Method) (c : Code) (nL : Nat) (g : hw_G) (A : Nat → Prop) (post : hw_H → Prop) : Nat → Nat → Nat → List (Option Value) → List Value → hw_H → Prop := hw_J p l e R s m args below meth c (MQ below (va_Qv post (hw_B g A) A) args s R.cells R.slots A) nL g A
abbrev hw_Jq (p : Program) (l : Launch) (e : Env) (R : Room) (s : State) (m : MethodId) (args : Array Value) (below : List Frame) (meth : Method) (c : Code) (nL : Nat) (g : hw_G) (A : Nat → Prop) (post : Option Nat → hw_H → Prop) : Nat → Nat → Nat → List (Option Value) → List Value → hw_H → Prop := hw_J p l e R s m args below meth c (MQ below (va_Qq post (hw_B g A) A) args s R.cells R.slots A) nL g A
theorem hw_o_of {w : hw_H} {b ci : Nat} {C : String} {r : vw_C} {fs : List Value} (h : w b = some (.inr (ci, fs))) (hc : vwCl[ci]? = some r) (hr : r.1 = C) : hw_o w b C := ⟨ci, r, fs, h, hc, hr⟩
