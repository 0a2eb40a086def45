/-! The heap as a map from addresses to cells, one judgement over it (hw_J), and a row an instruction. -/
abbrev hw_H : Type := Nat → Option va_E
abbrev hw_G : Type := va_G × (Nat → ClassId) × (Nat → Nat) × (Nat → Nat)
def hw_tys (g : hw_G) : List (ClassId × FieldType) := [(g.2.1 0, .int), (g.2.1 1, .char), (g.2.1 2, .boolean), (g.2.1 3, .object "ProofCourt$Clause")]
/-- the list of cells holds just what the map says -/
def hw_rep (ws : va_W) (w : hw_H) : Prop := ∀ (a : Nat) (e : va_E), w a = some e ↔ (a, e) ∈ ws
/-- the locals -/
def hw_L (ls : Array Slot) (nL : Nat) (lv : List (Option Value)) : Prop := ∃ l : List (Nat × Value), lv_has ls nL l ∧ ∀ (i : Nat) (v : Value), lv[i]? = some (some v) → (i, v) ∈ l ∧ v.category = 1
theorem hw_L_at {ls : Array Slot} {nL : Nat} {lv : List (Option Value)} (h : hw_L ls nL lv) {i : Nat} {v : Value} (hv : lv[i]? = some (some v)) : ls[i]? = some (.val v) := by
  obtain ⟨l, h1, h2⟩ := h
  exact h1.2.2 (i, v) (h2 i v hv).1
theorem hw_L_set {ls' : Array Slot} {nL : Nat} {lv : List (Option Value)} {l : List (Nat × Value)} {i : Nat} {x : Value} (hm : ∀ (i : Nat) (v : Value), lv[i]? = some (some v) → (i, v) ∈ l ∧ v.category = 1) (h : lv_has ls' nL ((i, x) :: l.filter (fun q => !(q.1 == i) && !(q.1 + 1 == i && q.2.category == 2)))) (hx : x.category = 1) : hw_L ls' nL (lv.set i (some x)) := by
  refine ⟨_, h, fun j v hj => ?_⟩
  by_cases hij : i = j
  · subst hij
    have hl : i < lv.length := by
      have h9 := (List.getElem?_eq_some_iff.mp hj).1
      simpa using h9
    rw [List.getElem?_set_self hl] at hj
    cases hj
    exact ⟨List.mem_cons_self, hx⟩
  · rw [List.getElem?_set_ne hij] at hj
    obtain ⟨h1, h2⟩ := hm j v hj
    refine ⟨List.mem_cons_of_mem _ (List.mem_filter.mpr ⟨h1, ?_⟩), h2⟩
    show (!(j == i) && !(j + 1 == i && v.category == 2)) = true
    rw [h2]
    simp [Ne.symm hij]
theorem hw_args_mem : ∀ (vs : List Value) (i0 : Nat), (∀ v ∈ vs, v.category = 1) → ∀ (j : Nat) (v : Value), vs[j]? = some v → (i0 + j, v) ∈ lv_args i0 vs := by
  intro vs
  induction vs with
  | nil => intro i0 _ j v h; simp at h
  | cons u vs ih =>
    intro i0 hc j v h
    have hu : ¬ u.category = 2 := by rw [hc u List.mem_cons_self]; decide
    cases j with
    | zero =>
      simp at h
      subst h
      exact List.mem_cons_self
    | succ j =>
      rw [List.getElem?_cons_succ] at h
      have h2 := ih (i0 + 1) (fun v hv => hc v (List.mem_cons_of_mem _ hv)) j v h
      simp only [lv_args, hu, if_false]
      rw [show i0 + (j + 1) = i0 + 1 + j by omega]
      exact List.mem_cons_of_mem _ h2
theorem hw_rep_set {A : Nat → Prop} {ws : va_W} {w : hw_H} {q0 a : Nat} {e0 e : va_E} (h : hw_rep ws w) (hD : va_D A ws) (hq : ws[q0]? = some (a, e0)) : hw_rep (ws.set q0 (a, e)) (va_up w a (some e)) := by
  have hl := (List.getElem?_eq_some_iff.mp hq).1
  intro b e'
  by_cases hb : b = a
  · subst hb
    rw [va_up_self]
    constructor
    · intro h1
      cases h1
      exact List.mem_iff_getElem?.mpr ⟨q0, List.getElem?_set_self hl⟩
    · intro h1
      obtain ⟨i, hi⟩ := List.mem_iff_getElem?.mp h1
      by_cases hiq : i = q0
      · subst hiq
        rw [List.getElem?_set_self hl] at hi
        cases hi
        rfl
      · rw [List.getElem?_set_ne (Ne.symm hiq)] at hi
        exact absurd (hD.1 i q0 _ _ hi hq rfl) hiq
  · rw [va_up_ne _ _ hb, h b e']
    constructor
    · intro h1
      obtain ⟨i, hi⟩ := List.mem_iff_getElem?.mp h1
      have hiq : i ≠ q0 := by
        intro z
        subst z
        rw [hq] at hi
        cases hi
        exact hb rfl
      exact List.mem_iff_getElem?.mpr ⟨i, by rw [List.getElem?_set_ne (Ne.symm hiq)]; exact hi⟩
    · intro h1
      obtain ⟨i, hi⟩ := List.mem_iff_getElem?.mp h1
      by_cases hiq : i = q0
      · subst hiq
        rw [List.getElem?_set_self hl] at hi
        cases hi
        exact absurd rfl hb
      · rw [List.getElem?_set_ne (Ne.symm hiq)] at hi
        exact List.mem_iff_getElem?.mpr ⟨i, hi⟩
theorem hw_fresh {A : Nat → Prop} {ws : va_W} {w : hw_H} {q : Nat} {e : va_E} (h : hw_rep ws w) (hD : va_D A (ws ++ [(q, e)])) : w q = none := by
  cases hw : w q with
  | none => rfl
  | some e0 =>
    obtain ⟨i, hi⟩ := List.mem_iff_getElem?.mp ((h q e0).mp hw)
    have hl := (List.getElem?_eq_some_iff.mp hi).1
    have h1 : (ws ++ [(q, e)])[i]? = some (q, e0) := by rw [List.getElem?_append_left hl]; exact hi
    have h2 : (ws ++ [(q, e)])[ws.length]? = some (q, e) := by rw [List.getElem?_append_right (Nat.le_refl _), Nat.sub_self]; rfl
    have := hD.1 _ _ _ _ h1 h2 rfl
    omega
theorem hw_rep_push {ws : va_W} {w : hw_H} {q : Nat} {e : va_E} (h : hw_rep ws w) (hq : w q = none) : hw_rep (ws ++ [(q, e)]) (va_up w q (some e)) := by
  intro b e'
  rw [List.mem_append, List.mem_singleton]
  by_cases hb : b = q
  · subst hb
    rw [va_up_self]
    constructor
    · intro h1; cases h1; exact Or.inr rfl
    · intro h1
      rcases h1 with h1 | h1
      · have := (h b e').mpr h1
        rw [hq] at this
        cases this
      · cases h1; rfl
  · rw [va_up_ne _ _ hb, h b e']
    constructor
    · intro h1; exact Or.inl h1
    · intro h1
      rcases h1 with h1 | h1
      · exact h1
      · cases h1; exact absurd rfl hb
theorem hw_rep_none {w : hw_H} (h : ∀ a, w a = none) : hw_rep [] w := by
  intro a e
  rw [h a]
  simp
/-- what a cell's field holds; a field that is written; what an array holds; an array that is written -/
def hw_g (w : hw_H) (a ci i : Nat) (v : Value) : Prop := ∃ fs : List Value, w a = some (.inr (ci, fs)) ∧ fs[i]? = some v
def hw_p (w : hw_H) (a ci i : Nat) (v : Value) (w' : hw_H) : Prop := ∃ fs : List Value, w a = some (.inr (ci, fs)) ∧ i < fs.length ∧ w' = va_up w a (some (.inr (ci, fs.set i v)))
def hw_ai (g : hw_G) (t : Nat) (w : hw_H) (a : Nat) (i x : Int32) : Prop := ∃ (n : Nat) (f : Nat → Int32), w a = some (.inl (g.2.1 t, n, .inl f)) ∧ vp_in i n ∧ f i.toNatClampNeg = x
def hw_as (g : hw_G) (t : Nat) (w : hw_H) (a : Nat) (i x : Int32) (w' : hw_H) : Prop := ∃ (n : Nat) (f : Nat → Int32), w a = some (.inl (g.2.1 t, n, .inl f)) ∧ vp_in i n ∧ w' = va_up w a (some (.inl (g.2.1 t, n, .inl (upd f i.toNatClampNeg x))))
def hw_ar (g : hw_G) (w : hw_H) (a : Nat) (i : Int32) (o : Option Nat) : Prop := ∃ (n : Nat) (f : Nat → Option Nat), w a = some (.inl (g.2.1 3, n, .inr (.inr (.inr (.inr f))))) ∧ vp_in i n ∧ f i.toNatClampNeg = o
def hw_aw (g : hw_G) (ci : Nat) (w : hw_H) (a : Nat) (i : Int32) (b : Nat) (w' : hw_H) : Prop := (∃ fs : List Value, w b = some (.inr (ci, fs))) ∧ ∃ (n : Nat) (f : Nat → Option Nat), w a = some (.inl (g.2.1 3, n, .inr (.inr (.inr (.inr f))))) ∧ vp_in i n ∧ w' = va_up w a (some (.inl (g.2.1 3, n, .inr (.inr (.inr (.inr (va_up f i.toNatClampNeg (some b))))))))
def hw_al (g : hw_G) (w : hw_H) (a : Nat) (x : Int32) : Prop := ∃ (t n : Nat) (f : (Nat → Int32) ⊕ (Nat → Int64) ⊕ (Nat → UInt32) ⊕ (Nat → UInt64) ⊕ (Nat → Option Nat)), t < 4 ∧ w a = some (.inl (g.2.1 t, n, f)) ∧ Int32.ofNat n = x
def hw_b (x : Int32) : Prop := x = 0 ∨ x = 1
theorem hw_b_nar {x : Int32} (h : hw_b x) : narrow .boolean (.int x) = .int x := by
  rcases h with rfl | rfl <;> rfl
theorem hw_b_fit {x : Int32} (h : hw_b x) : fits .boolean (.int x) = true := by
  rcases h with rfl | rfl <;> rfl
theorem hw_rfc (o : Option Nat) : (va_rf o).category = 1 := by cases o <;> rfl
/-- the evidence for a field of an instruction -/
def hw_F (s : State) (args : Array Value) (Ts : List Cond) (own : String) (index ci i : Nat) : Prop := ∃ (C : String) (T : u_T) (N : Nat) (ref : String), vwCl[ci]? = some (C, T, N) ∧ i < N ∧ (∀ w ∈ u_ws C T N, w ∈ Ts) ∧ ((Cond.fieldLink own index ref (T i).2.1 (T i).2.2.1).before args s = true ∨ ∃ host : String, (Cond.fieldLinkNest own index ref (T i).2.1 (T i).2.2.1 host).before args s = true) ∧ (∀ x, s.fieldFound? (T i).1 (T i).2.1 (T i).2.2.1 = some x → s.fieldFound? ref (T i).2.1 (T i).2.2.1 = some x)
def hw_FP (s : State) (args : Array Value) (Ts : List Cond) (own : String) (index ci i : Nat) (ty : FieldType) : Prop := ∃ (C : String) (T : u_T) (N : Nat) (ref : String) (ty0 : Nat → FieldType), vwCl[ci]? = some (C, T, N) ∧ i < N ∧ (∀ w ∈ u_ws C T N, w ∈ Ts) ∧ ((Cond.fieldLink own index ref (T i).2.1 (T i).2.2.1).before args s = true ∨ ∃ host : String, (Cond.fieldLinkNest own index ref (T i).2.1 (T i).2.2.1 host).before args s = true) ∧ (∀ x, s.fieldFound? (T i).1 (T i).2.1 (T i).2.2.1 = some x → s.fieldFound? ref (T i).2.1 (T i).2.2.1 = some x) ∧ (∀ k, k < N → parseFieldDescriptor (T k).2.2.1 = some (ty0 k)) ∧ (∀ a, a < N → ∀ b, b < N → a ≠ b → (T a).2.1 ≠ (T b).2.1) ∧ (T i).2.2.2 = false ∧ parseFieldDescriptor (T i).2.2.1 = some ty
def hw_FF (s : State) (args : Array Value) (Ts : List Cond) (own : String) (index ci i : Nat) (ty : FieldType) : Prop := ∃ (C : String) (T : u_T) (N : Nat) (ref : String) (ty0 : Nat → FieldType), vwCl[ci]? = some (C, T, N) ∧ i < N ∧ (∀ w ∈ u_ws C T N, w ∈ Ts) ∧ (Cond.fieldLink own index ref (T i).2.1 (T i).2.2.1).before args s = true ∧ (∀ x, s.fieldFound? (T i).1 (T i).2.1 (T i).2.2.1 = some x → s.fieldFound? ref (T i).2.1 (T i).2.2.1 = some x) ∧ (∀ k, k < N → parseFieldDescriptor (T k).2.2.1 = some (ty0 k)) ∧ (∀ a, a < N → ∀ b, b < N → a ≠ b → (T a).2.1 ≠ (T b).2.1) ∧ (T i).2.2.2 = true ∧ (T i).1 = own ∧ parseFieldDescriptor (T i).2.2.1 = some ty
/-- the evidence for a new object -/
def hw_N (s : State) (args : Array Value) (Ts : List Cond) (own : String) (index ci N : Nat) (fs : List Value) : Prop := ∃ (C : String) (T : u_T) (ty : Nat → FieldType), vwCl[ci]? = some (C, T, N) ∧ (∀ w ∈ u_ws C T N, w ∈ Ts) ∧ (∀ k, k < N → parseFieldDescriptor (T k).2.2.1 = some (ty k)) ∧ (Cond.classLink own index C).before args s = true ∧ (Cond.instantiable C N).before args s = true ∧ (Cond.initialized C).before args s = true ∧ ∀ j, j < N → defaultValue (ty j) = vp_V fs j
/-- what else every method gets: links between nest mates, the constants of text, one static field -/
def hw_E (g : hw_G) (A : Nat → Prop) (U : State) (H : Heap) : Prop := (∀ w ∈ hw_nest, va_Nw w U) ∧ vk_S hw_sN hw_sLen hw_sByt g.2.2.1 g.2.2.2 A U H ∧ (∀ q ∈ hw_sR, vk_R q.1 q.2.1 q.2.2.1 (g.2.2.1 q.2.2.2) U) ∧ va_Z "java/lang/String" "COMPACT_STRINGS" "Z" (.int 1) A U H ∧ va_AO "ProofCourt$Clause" U ∧ va_Zq "jdk/internal/util/Preconditions" "SIOOBE_FORMATTER" "Ljava/util/function/BiFunction;" A U H
def hw_isN (w : Cond) : Bool := match w with
  | .fieldLinkNest .. => true
  | .methodLinkNest .. => true
  | _ => false
theorem hw_nest_ok : hw_nest.all hw_isN = true := by decide +kernel
theorem hw_Nw_warm {w : Cond} (h : hw_isN w = true) {s U : State} (hW : s.WarmedH U.vm) (hZ : va_Nw w s) : va_Nw w U := by
  cases w <;> first | exact hZ.warmF hW | exact va_Nw.warmF hW hZ | exact va_Nw.warmM hW hZ | (simp [hw_isN] at h; done)
theorem hw_Nw_same {w : Cond} (h : hw_isN w = true) {s U : State} (hv : s.vm = U.vm) (hZ : va_Nw w s) : va_Nw w U := by
  cases w <;> first | exact va_Nw.same rfl hv hZ | (simp [hw_isN] at h; done)
theorem hw_E_warm {g : hw_G} {A B : Nat → Prop} {s U : State} {H : Heap} (h : hw_E g A s s.heap) (hW : s.WarmedH U.vm) (hk : ∀ a : Nat, a < s.heap.size → ¬ A a → H[a]? = s.heap[a]?) (hAB : ∀ q, B q → A q) : hw_E g B U H := by
  obtain ⟨h1, h2, h3, h4, h5, h6⟩ := h
  exact ⟨fun w hw => hw_Nw_warm (List.all_eq_true.mp hw_nest_ok w hw) hW (h1 w hw), ((h2.moved hW.alike).kept hk).narrow hAB, fun q hq => (h3 q hq).warm hW, ((h4.moved hW.alike).kept hk).narrow hAB, h5.moved hW.alike, ((h6.moved hW.alike).kept hk).narrow hAB⟩
theorem hw_E_same {g : hw_G} {A : Nat → Prop} {s U : State} {H : Heap} (h : hw_E g A s H) (hv : U.vm = s.vm) : hw_E g A U H := by
  obtain ⟨h1, h2, h3, h4, h5, h6⟩ := h
  have ha : s.vm.Alike U.vm := by rw [hv]; exact Vm.Alike.refl _
  exact ⟨fun w hw => hw_Nw_same (List.all_eq_true.mp hw_nest_ok w hw) hv.symm (h1 w hw), h2.moved ha, fun q hq => (h3 q hq).same hv, h4.moved ha, h5.moved ha, h6.moved ha⟩
def hw_J (p : Program) (l : Launch) (e : Env) (R : Room) (s : State) (m : MethodId) (args : Array Value) (below : List Frame) (meth : Method) (c : Code) (Q : State → Prop) (nL : Nat) (g : hw_G) (A : Nat → Prop) (k n pc : Nat) (lv : List (Option Value)) (st : List Value) (w : hw_H) : Prop :=
  ∀ (H : Heap) (locs : List Loc) (ls : Array Slot) (ws : va_W), hw_L ls nL lv → hw_rep ws w → va_P g.1 vwCl ws H → va_D A ws → va_S A s.heap H locs → W p l e R s m args below meth c H locs k n Q (F0 m pc ls st)
def hw_X (p : Program) (m : MethodId) (c : Code) (cc : ByteArray) (nL : Nat) (s : State) (args : Array Value) (Ts : List Cond) (own : String) (g : hw_G) (A : Nat → Prop) : Prop := CallFix p m c cc nL s args Ts own ∧ va_K g.1 vwCl (hw_tys g) s ∧ (∀ q : Nat, s.heap.size ≤ q → A q) ∧ hw_E g A s s.heap
section HW
variable {p : Program} {l : Launch} {e : Env} {R : Room} {s : State} {m : MethodId} {args : Array Value} {below : List Frame} {meth : Method} {c : Code} {Q : State → Prop} {cc : ByteArray} {nL : Nat} {Ts : List Cond} {own : String} {g : hw_G} {A : Nat → Prop} {k n pc : Nat} {lv lv' : List (Option Value)} {st : List Value} {w w' : hw_H}
theorem hw_iconst (X : hw_X p m c cc nL s args Ts own g A) {z : Int} {v : Int32} (d : decode cc pc = .ok (.iconst z, 1)) (hv : Int32.ofInt z = v) (kk : hw_J p l e R s m args below meth c Q nL g A k n (pc + 1) lv (.int v :: st) w) : hw_J p l e R s m args below meth c Q nL g A k n pc lv st w := fun H locs ls ws h1 h2 h3 h4 h5 => lv_iconst X.1.1 X.1.2.1 d hv (kk H locs ls ws h1 h2 h3 h4 h5)
theorem hw_bipush (X : hw_X p m c cc nL s args Ts own g A) {z : Int} {v : Int32} (d : decode cc pc = .ok (.bipush z, 2)) (hv : (Int8.ofInt z).toInt32 = v) (kk : hw_J p l e R s m args below meth c Q nL g A k n (pc + 2) lv (.int v :: st) w) : hw_J p l e R s m args below meth c Q nL g A k n pc lv st w := fun H locs ls ws h1 h2 h3 h4 h5 => lv_bipush X.1.1 X.1.2.1 d hv (kk H locs ls ws h1 h2 h3 h4 h5)
theorem hw_sipush (X : hw_X p m c cc nL s args Ts own g A) {z : Int} {v : Int32} (d : decode cc pc = .ok (.sipush z, 3)) (hv : (Int16.ofInt z).toInt32 = v) (kk : hw_J p l e R s m args below meth c Q nL g A k n (pc + 3) lv (.int v :: st) w) : hw_J p l e R s m args below meth c Q nL g A k n pc lv st w := fun H locs ls ws h1 h2 h3 h4 h5 => lv_sipush X.1.1 X.1.2.1 d hv (kk H locs ls ws h1 h2 h3 h4 h5)
theorem hw_null (X : hw_X p m c cc nL s args Ts own g A) (d : decode cc pc = .ok (.aconst_null, 1)) (kk : hw_J p l e R s m args below meth c Q nL g A k n (pc + 1) lv (.null :: st) w) : hw_J p l e R s m args below meth c Q nL g A k n pc lv st w := fun H locs ls ws h1 h2 h3 h4 h5 => lv_null X.1.1 X.1.2.1 d (kk H locs ls ws h1 h2 h3 h4 h5)
theorem hw_ldc (X : hw_X p m c cc nL s args Ts own g A) {index : Nat} {v : Int32} (hc : (Cond.constant own index v).before args s = true) (d : decode cc pc = .ok (.ldc index, 2)) (kk : hw_J p l e R s m args below meth c Q nL g A k n (pc + 2) lv (.int v :: st) w) : hw_J p l e R s m args below meth c Q nL g A k n pc lv st w := fun H locs ls ws h1 h2 h3 h4 h5 => lv_ldc X.1.1 X.1.2.1 X.1.2.2.2.1 hc d (kk H locs ls ws h1 h2 h3 h4 h5)
theorem hw_ldc_w (X : hw_X p m c cc nL s args Ts own g A) {index : Nat} {v : Int32} (hc : (Cond.constant own index v).before args s = true) (d : decode cc pc = .ok (.ldc_w index, 3)) (kk : hw_J p l e R s m args below meth c Q nL g A k n (pc + 3) lv (.int v :: st) w) : hw_J p l e R s m args below meth c Q nL g A k n pc lv st w := fun H locs ls ws h1 h2 h3 h4 h5 => lv_ldcw X.1.1 X.1.2.1 X.1.2.2.2.1 hc d (kk H locs ls ws h1 h2 h3 h4 h5)
theorem hw_ldcS (X : hw_X p m c cc nL s args Ts own g A) {index i : Nat} {tx : String} (hc : (own, index, tx, i) ∈ hw_sR) (d : decode cc pc = .ok (.ldc index, 2)) (kk : hw_J p l e R s m args below meth c Q nL g A k n (pc + 2) lv (.ref (g.2.2.1 i) :: st) w) : hw_J p l e R s m args below meth c Q nL g A k n pc lv st w := fun H locs ls ws h1 h2 h3 h4 h5 => va_ldcS X.1.1 X.1.2.1 X.1.2.2.2.1 (X.2.2.2.2.2.1 _ hc) d (kk H locs ls ws h1 h2 h3 h4 h5)
theorem hw_iload_n (X : hw_X p m c cc nL s args Ts own g A) {i : Fin 4} {x : Int32} (d : decode cc pc = .ok (.iload_n i, 1)) (h : lv[(i : Nat)]? = some (some (.int x))) (kk : hw_J p l e R s m args below meth c Q nL g A k n (pc + 1) lv (.int x :: st) w) : hw_J p l e R s m args below meth c Q nL g A k n pc lv st w := fun H locs ls ws h1 h2 h3 h4 h5 => lv_iload_n X.1.1 X.1.2.1 d rfl (hw_L_at h1 h) (kk H locs ls ws h1 h2 h3 h4 h5)
theorem hw_iload (X : hw_X p m c cc nL s args Ts own g A) {i : Nat} {x : Int32} (d : decode cc pc = .ok (.iload i, 2)) (h : lv[i]? = some (some (.int x))) (kk : hw_J p l e R s m args below meth c Q nL g A k n (pc + 2) lv (.int x :: st) w) : hw_J p l e R s m args below meth c Q nL g A k n pc lv st w := fun H locs ls ws h1 h2 h3 h4 h5 => lv_iload X.1.1 X.1.2.1 d (hw_L_at h1 h) (kk H locs ls ws h1 h2 h3 h4 h5)
theorem hw_aload_n (X : hw_X p m c cc nL s args Ts own g A) {i : Fin 4} {v : Value} (hv : v = .null ∨ ∃ a, v = .ref a) (d : decode cc pc = .ok (.aload_n i, 1)) (h : lv[(i : Nat)]? = some (some v)) (kk : hw_J p l e R s m args below meth c Q nL g A k n (pc + 1) lv (v :: st) w) : hw_J p l e R s m args below meth c Q nL g A k n pc lv st w := by
  intro H locs ls ws h1 h2 h3 h4 h5
  rcases hv with rfl | ⟨a, rfl⟩
  · exact lv_aload_nN X.1.1 X.1.2.1 d rfl (hw_L_at h1 h) (kk H locs ls ws h1 h2 h3 h4 h5)
  · exact lv_aload_n X.1.1 X.1.2.1 d rfl (hw_L_at h1 h) (kk H locs ls ws h1 h2 h3 h4 h5)
theorem hw_aload (X : hw_X p m c cc nL s args Ts own g A) {i : Nat} {v : Value} (hv : v = .null ∨ ∃ a, v = .ref a) (d : decode cc pc = .ok (.aload i, 2)) (h : lv[i]? = some (some v)) (kk : hw_J p l e R s m args below meth c Q nL g A k n (pc + 2) lv (v :: st) w) : hw_J p l e R s m args below meth c Q nL g A k n pc lv st w := by
  intro H locs ls ws h1 h2 h3 h4 h5
  rcases hv with rfl | ⟨a, rfl⟩
  · exact lv_aloadN X.1.1 X.1.2.1 d (hw_L_at h1 h) (kk H locs ls ws h1 h2 h3 h4 h5)
  · exact lv_aload X.1.1 X.1.2.1 d (hw_L_at h1 h) (kk H locs ls ws h1 h2 h3 h4 h5)
theorem hw_istore_n (X : hw_X p m c cc nL s args Ts own g A) {i : Fin 4} {x : Int32} (d : decode cc pc = .ok (.istore_n i, 1)) (hn : (i : Nat) < nL) (hl : lv.set (i : Nat) (some (.int x)) = lv') (kk : hw_J p l e R s m args below meth c Q nL g A k n (pc + 1) lv' st w) : hw_J p l e R s m args below meth c Q nL g A k n pc lv (.int x :: st) w := by
  intro H locs ls ws h1 h2 h3 h4 h5
  obtain ⟨l9, g1, g2⟩ := h1
  refine lv_istore_n X.1.1 X.1.2.1 d rfl g1 hn rfl (fun ls' g3 => ?_)
  exact kk H locs ls' ws (hl ▸ hw_L_set g2 g3 rfl) h2 h3 h4 h5
theorem hw_istore (X : hw_X p m c cc nL s args Ts own g A) {i : Nat} {x : Int32} (d : decode cc pc = .ok (.istore i, 2)) (hn : i < nL) (hl : lv.set i (some (.int x)) = lv') (kk : hw_J p l e R s m args below meth c Q nL g A k n (pc + 2) lv' st w) : hw_J p l e R s m args below meth c Q nL g A k n pc lv (.int x :: st) w := by
  intro H locs ls ws h1 h2 h3 h4 h5
  obtain ⟨l9, g1, g2⟩ := h1
  refine lv_istore X.1.1 X.1.2.1 d g1 hn rfl (fun ls' g3 => ?_)
  exact kk H locs ls' ws (hl ▸ hw_L_set g2 g3 rfl) h2 h3 h4 h5
theorem hw_astore_n (X : hw_X p m c cc nL s args Ts own g A) {i : Fin 4} {v : Value} (hv : v = .null ∨ ∃ a, v = .ref a) (d : decode cc pc = .ok (.astore_n i, 1)) (hn : (i : Nat) < nL) (hl : lv.set (i : Nat) (some v) = lv') (kk : hw_J p l e R s m args below meth c Q nL g A k n (pc + 1) lv' st w) : hw_J p l e R s m args below meth c Q nL g A k n pc lv (v :: st) w := by
  intro H locs ls ws h1 h2 h3 h4 h5
  obtain ⟨l9, g1, g2⟩ := h1
  rcases hv with rfl | ⟨a, rfl⟩
  · refine lv_astore_nN X.1.1 X.1.2.1 d rfl g1 hn rfl (fun ls' g3 => ?_)
    exact kk H locs ls' ws (hl ▸ hw_L_set g2 g3 rfl) h2 h3 h4 h5
  · refine lv_astore_n X.1.1 X.1.2.1 d rfl g1 hn rfl (fun ls' g3 => ?_)
    exact kk H locs ls' ws (hl ▸ hw_L_set g2 g3 rfl) h2 h3 h4 h5
theorem hw_astore (X : hw_X p m c cc nL s args Ts own g A) {i : Nat} {v : Value} (hv : v = .null ∨ ∃ a, v = .ref a) (d : decode cc pc = .ok (.astore i, 2)) (hn : i < nL) (hl : lv.set i (some v) = lv') (kk : hw_J p l e R s m args below meth c Q nL g A k n (pc + 2) lv' st w) : hw_J p l e R s m args below meth c Q nL g A k n pc lv (v :: st) w := by
  intro H locs ls ws h1 h2 h3 h4 h5
  obtain ⟨l9, g1, g2⟩ := h1
  rcases hv with rfl | ⟨a, rfl⟩
  · refine lv_astoreN X.1.1 X.1.2.1 d g1 hn rfl (fun ls' g3 => ?_)
    exact kk H locs ls' ws (hl ▸ hw_L_set g2 g3 rfl) h2 h3 h4 h5
  · refine lv_astore X.1.1 X.1.2.1 d g1 hn rfl (fun ls' g3 => ?_)
    exact kk H locs ls' ws (hl ▸ hw_L_set g2 g3 rfl) h2 h3 h4 h5
theorem hw_iinc (X : hw_X p m c cc nL s args Ts own g A) {i : Nat} {z : Int} {x v : Int32} (d : decode cc pc = .ok (.iinc i z, 3)) (h : lv[i]? = some (some (.int x))) (hv : x + Int32.ofInt z = v) (hn : i < nL) (hl : lv.set i (some (.int v)) = lv') (kk : hw_J p l e R s m args below meth c Q nL g A k n (pc + 3) lv' st w) : hw_J p l e R s m args below meth c Q nL g A k n pc lv st w := by
  intro H locs ls ws h1 h2 h3 h4 h5
  obtain ⟨l9, g1, g2⟩ := h1
  obtain ⟨k9, hk⟩ := List.getElem?_of_mem (g2 _ _ h).1
  refine lv_iinc X.1.1 X.1.2.1 d g1 hk hv hn rfl (fun ls' g3 => ?_)
  exact kk H locs ls' ws (hl ▸ hw_L_set g2 g3 rfl) h2 h3 h4 h5
theorem hw_iadd (X : hw_X p m c cc nL s args Ts own g A) {x y : Int32} (d : decode cc pc = .ok (.iadd, 1)) (kk : hw_J p l e R s m args below meth c Q nL g A k n (pc + 1) lv (.int (x + y) :: st) w) : hw_J p l e R s m args below meth c Q nL g A k n pc lv (.int y :: .int x :: st) w := fun H locs ls ws h1 h2 h3 h4 h5 => lv_iadd X.1.1 X.1.2.1 d (kk H locs ls ws h1 h2 h3 h4 h5)
theorem hw_isub (X : hw_X p m c cc nL s args Ts own g A) {x y : Int32} (d : decode cc pc = .ok (.isub, 1)) (kk : hw_J p l e R s m args below meth c Q nL g A k n (pc + 1) lv (.int (x - y) :: st) w) : hw_J p l e R s m args below meth c Q nL g A k n pc lv (.int y :: .int x :: st) w := fun H locs ls ws h1 h2 h3 h4 h5 => lv_isub X.1.1 X.1.2.1 d (kk H locs ls ws h1 h2 h3 h4 h5)
theorem hw_imul (X : hw_X p m c cc nL s args Ts own g A) {x y : Int32} (d : decode cc pc = .ok (.imul, 1)) (kk : hw_J p l e R s m args below meth c Q nL g A k n (pc + 1) lv (.int (x * y) :: st) w) : hw_J p l e R s m args below meth c Q nL g A k n pc lv (.int y :: .int x :: st) w := fun H locs ls ws h1 h2 h3 h4 h5 => lv_imul X.1.1 X.1.2.1 d (kk H locs ls ws h1 h2 h3 h4 h5)
theorem hw_iand (X : hw_X p m c cc nL s args Ts own g A) {x y : Int32} (d : decode cc pc = .ok (.iand, 1)) (kk : hw_J p l e R s m args below meth c Q nL g A k n (pc + 1) lv (.int (x &&& y) :: st) w) : hw_J p l e R s m args below meth c Q nL g A k n pc lv (.int y :: .int x :: st) w := fun H locs ls ws h1 h2 h3 h4 h5 => lv_iand X.1.1 X.1.2.1 d (kk H locs ls ws h1 h2 h3 h4 h5)
theorem hw_ior (X : hw_X p m c cc nL s args Ts own g A) {x y : Int32} (d : decode cc pc = .ok (.ior, 1)) (kk : hw_J p l e R s m args below meth c Q nL g A k n (pc + 1) lv (.int (x ||| y) :: st) w) : hw_J p l e R s m args below meth c Q nL g A k n pc lv (.int y :: .int x :: st) w := fun H locs ls ws h1 h2 h3 h4 h5 => lv_ior X.1.1 X.1.2.1 d (kk H locs ls ws h1 h2 h3 h4 h5)
theorem hw_ixor (X : hw_X p m c cc nL s args Ts own g A) {x y : Int32} (d : decode cc pc = .ok (.ixor, 1)) (kk : hw_J p l e R s m args below meth c Q nL g A k n (pc + 1) lv (.int (x ^^^ y) :: st) w) : hw_J p l e R s m args below meth c Q nL g A k n pc lv (.int y :: .int x :: st) w := fun H locs ls ws h1 h2 h3 h4 h5 => lv_ixor X.1.1 X.1.2.1 d (kk H locs ls ws h1 h2 h3 h4 h5)
theorem hw_ishl (X : hw_X p m c cc nL s args Ts own g A) {x y : Int32} (d : decode cc pc = .ok (.ishl, 1)) (kk : hw_J p l e R s m args below meth c Q nL g A k n (pc + 1) lv (.int (x <<< (y &&& 31)) :: st) w) : hw_J p l e R s m args below meth c Q nL g A k n pc lv (.int y :: .int x :: st) w := fun H locs ls ws h1 h2 h3 h4 h5 => lv_ishl X.1.1 X.1.2.1 d (kk H locs ls ws h1 h2 h3 h4 h5)
theorem hw_ishr (X : hw_X p m c cc nL s args Ts own g A) {x y : Int32} (d : decode cc pc = .ok (.ishr, 1)) (kk : hw_J p l e R s m args below meth c Q nL g A k n (pc + 1) lv (.int (x >>> (y &&& 31)) :: st) w) : hw_J p l e R s m args below meth c Q nL g A k n pc lv (.int y :: .int x :: st) w := fun H locs ls ws h1 h2 h3 h4 h5 => lv_ishr X.1.1 X.1.2.1 d (kk H locs ls ws h1 h2 h3 h4 h5)
theorem hw_ineg (X : hw_X p m c cc nL s args Ts own g A) {x : Int32} (d : decode cc pc = .ok (.ineg, 1)) (kk : hw_J p l e R s m args below meth c Q nL g A k n (pc + 1) lv (.int (-x) :: st) w) : hw_J p l e R s m args below meth c Q nL g A k n pc lv (.int x :: st) w := fun H locs ls ws h1 h2 h3 h4 h5 => lv_ineg X.1.1 X.1.2.1 d (kk H locs ls ws h1 h2 h3 h4 h5)
theorem hw_iushr (X : hw_X p m c cc nL s args Ts own g A) {x y v : Int32} (hv : (x.toUInt32 >>> (y.toUInt32 &&& Int32.toUInt32 31)).toInt32 = v) (d : decode cc pc = .ok (.iushr, 1)) (kk : hw_J p l e R s m args below meth c Q nL g A k n (pc + 1) lv (.int v :: st) w) : hw_J p l e R s m args below meth c Q nL g A k n pc lv (.int y :: .int x :: st) w := fun H locs ls ws h1 h2 h3 h4 h5 => lv_iushr X.1.1 X.1.2.1 d hv (kk H locs ls ws h1 h2 h3 h4 h5)
theorem hw_i2c (X : hw_X p m c cc nL s args Ts own g A) {x : Int32} (d : decode cc pc = .ok (.i2c, 1)) (kk : hw_J p l e R s m args below meth c Q nL g A k n (pc + 1) lv (.int ((x.toUInt32 % 65536).toInt32) :: st) w) : hw_J p l e R s m args below meth c Q nL g A k n pc lv (.int x :: st) w := fun H locs ls ws h1 h2 h3 h4 h5 => lv_i2c X.1.1 X.1.2.1 d rfl (kk H locs ls ws h1 h2 h3 h4 h5)
theorem hw_dup (X : hw_X p m c cc nL s args Ts own g A) {v : Value} (hv : v.category = 1) (d : decode cc pc = .ok (.dup, 1)) (kk : hw_J p l e R s m args below meth c Q nL g A k n (pc + 1) lv (v :: v :: st) w) : hw_J p l e R s m args below meth c Q nL g A k n pc lv (v :: st) w := fun H locs ls ws h1 h2 h3 h4 h5 => lv_dup X.1.1 X.1.2.1 d hv (kk H locs ls ws h1 h2 h3 h4 h5)
theorem hw_pop (X : hw_X p m c cc nL s args Ts own g A) {v : Value} (hv : v.category = 1) (d : decode cc pc = .ok (.pop, 1)) (kk : hw_J p l e R s m args below meth c Q nL g A k n (pc + 1) lv st w) : hw_J p l e R s m args below meth c Q nL g A k n pc lv (v :: st) w := fun H locs ls ws h1 h2 h3 h4 h5 => lv_pop X.1.1 X.1.2.1 d hv (kk H locs ls ws h1 h2 h3 h4 h5)
theorem hw_dup_x1 (X : hw_X p m c cc nL s args Ts own g A) {v u : Value} (hv : v.category = 1) (hu : u.category = 1) (d : decode cc pc = .ok (.dup_x1, 1)) (kk : hw_J p l e R s m args below meth c Q nL g A k n (pc + 1) lv (v :: u :: v :: st) w) : hw_J p l e R s m args below meth c Q nL g A k n pc lv (v :: u :: st) w := fun H locs ls ws h1 h2 h3 h4 h5 => lv_dup_x1 X.1.1 X.1.2.1 d hv hu (kk H locs ls ws h1 h2 h3 h4 h5)
theorem hw_dup_x2 (X : hw_X p m c cc nL s args Ts own g A) {v u z : Value} (hv : v.category = 1) (hu : u.category = 1) (hz : z.category = 1) (d : decode cc pc = .ok (.dup_x2, 1)) (kk : hw_J p l e R s m args below meth c Q nL g A k n (pc + 1) lv (v :: u :: z :: v :: st) w) : hw_J p l e R s m args below meth c Q nL g A k n pc lv (v :: u :: z :: st) w := fun H locs ls ws h1 h2 h3 h4 h5 => lv_dup_x2 X.1.1 X.1.2.1 d hv hu hz (kk H locs ls ws h1 h2 h3 h4 h5)
theorem hw_dup2 (X : hw_X p m c cc nL s args Ts own g A) {v u : Value} (hv : v.category = 1) (hu : u.category = 1) (d : decode cc pc = .ok (.dup2, 1)) (kk : hw_J p l e R s m args below meth c Q nL g A k n (pc + 1) lv (v :: u :: v :: u :: st) w) : hw_J p l e R s m args below meth c Q nL g A k n pc lv (v :: u :: st) w := fun H locs ls ws h1 h2 h3 h4 h5 => lv_dup2_11 X.1.1 X.1.2.1 d hv hu (kk H locs ls ws h1 h2 h3 h4 h5)
theorem hw_if_eq (X : hw_X p m c cc nL s args Ts own g A) {x : Int32} {off : Int} {tgt : Nat} (d : decode cc pc = .ok (.ifCond .eq off, 3)) (ht : (pc : Int) + off = (tgt : Int)) (kt : x = 0 → hw_J p l e R s m args below meth c Q nL g A k n tgt lv st w) (kf : ¬ x = 0 → hw_J p l e R s m args below meth c Q nL g A k n (pc + 3) lv st w) : hw_J p l e R s m args below meth c Q nL g A k n pc lv (.int x :: st) w := fun H locs ls ws h1 h2 h3 h4 h5 => lv_if_eq X.1.1 X.1.2.1 d ht (fun z => kt z H locs ls ws h1 h2 h3 h4 h5) (fun z => kf z H locs ls ws h1 h2 h3 h4 h5)
theorem hw_icmp_eq (X : hw_X p m c cc nL s args Ts own g A) {x y : Int32} {off : Int} {tgt : Nat} (d : decode cc pc = .ok (.if_icmp .eq off, 3)) (ht : (pc : Int) + off = (tgt : Int)) (kt : x = y → hw_J p l e R s m args below meth c Q nL g A k n tgt lv st w) (kf : ¬ x = y → hw_J p l e R s m args below meth c Q nL g A k n (pc + 3) lv st w) : hw_J p l e R s m args below meth c Q nL g A k n pc lv (.int y :: .int x :: st) w := fun H locs ls ws h1 h2 h3 h4 h5 => lv_icmp_eq X.1.1 X.1.2.1 d ht (fun z => kt z H locs ls ws h1 h2 h3 h4 h5) (fun z => kf z H locs ls ws h1 h2 h3 h4 h5)
theorem hw_if_ne (X : hw_X p m c cc nL s args Ts own g A) {x : Int32} {off : Int} {tgt : Nat} (d : decode cc pc = .ok (.ifCond .ne off, 3)) (ht : (pc : Int) + off = (tgt : Int)) (kt : ¬ x = 0 → hw_J p l e R s m args below meth c Q nL g A k n tgt lv st w) (kf : x = 0 → hw_J p l e R s m args below meth c Q nL g A k n (pc + 3) lv st w) : hw_J p l e R s m args below meth c Q nL g A k n pc lv (.int x :: st) w := fun H locs ls ws h1 h2 h3 h4 h5 => lv_if_ne X.1.1 X.1.2.1 d ht (fun z => kt z H locs ls ws h1 h2 h3 h4 h5) (fun z => kf z H locs ls ws h1 h2 h3 h4 h5)
theorem hw_icmp_ne (X : hw_X p m c cc nL s args Ts own g A) {x y : Int32} {off : Int} {tgt : Nat} (d : decode cc pc = .ok (.if_icmp .ne off, 3)) (ht : (pc : Int) + off = (tgt : Int)) (kt : ¬ x = y → hw_J p l e R s m args below meth c Q nL g A k n tgt lv st w) (kf : x = y → hw_J p l e R s m args below meth c Q nL g A k n (pc + 3) lv st w) : hw_J p l e R s m args below meth c Q nL g A k n pc lv (.int y :: .int x :: st) w := fun H locs ls ws h1 h2 h3 h4 h5 => lv_icmp_ne X.1.1 X.1.2.1 d ht (fun z => kt z H locs ls ws h1 h2 h3 h4 h5) (fun z => kf z H locs ls ws h1 h2 h3 h4 h5)
theorem hw_if_lt (X : hw_X p m c cc nL s args Ts own g A) {x : Int32} {off : Int} {tgt : Nat} (d : decode cc pc = .ok (.ifCond .lt off, 3)) (ht : (pc : Int) + off = (tgt : Int)) (kt : x < 0 → hw_J p l e R s m args below meth c Q nL g A k n tgt lv st w) (kf : ¬ x < 0 → hw_J p l e R s m args below meth c Q nL g A k n (pc + 3) lv st w) : hw_J p l e R s m args below meth c Q nL g A k n pc lv (.int x :: st) w := fun H locs ls ws h1 h2 h3 h4 h5 => lv_if_lt X.1.1 X.1.2.1 d ht (fun z => kt z H locs ls ws h1 h2 h3 h4 h5) (fun z => kf z H locs ls ws h1 h2 h3 h4 h5)
theorem hw_icmp_lt (X : hw_X p m c cc nL s args Ts own g A) {x y : Int32} {off : Int} {tgt : Nat} (d : decode cc pc = .ok (.if_icmp .lt off, 3)) (ht : (pc : Int) + off = (tgt : Int)) (kt : x < y → hw_J p l e R s m args below meth c Q nL g A k n tgt lv st w) (kf : ¬ x < y → hw_J p l e R s m args below meth c Q nL g A k n (pc + 3) lv st w) : hw_J p l e R s m args below meth c Q nL g A k n pc lv (.int y :: .int x :: st) w := fun H locs ls ws h1 h2 h3 h4 h5 => lv_icmp_lt X.1.1 X.1.2.1 d ht (fun z => kt z H locs ls ws h1 h2 h3 h4 h5) (fun z => kf z H locs ls ws h1 h2 h3 h4 h5)
theorem hw_if_ge (X : hw_X p m c cc nL s args Ts own g A) {x : Int32} {off : Int} {tgt : Nat} (d : decode cc pc = .ok (.ifCond .ge off, 3)) (ht : (pc : Int) + off = (tgt : Int)) (kt : 0 ≤ x → hw_J p l e R s m args below meth c Q nL g A k n tgt lv st w) (kf : ¬ 0 ≤ x → hw_J p l e R s m args below meth c Q nL g A k n (pc + 3) lv st w) : hw_J p l e R s m args below meth c Q nL g A k n pc lv (.int x :: st) w := fun H locs ls ws h1 h2 h3 h4 h5 => lv_if_ge X.1.1 X.1.2.1 d ht (fun z => kt z H locs ls ws h1 h2 h3 h4 h5) (fun z => kf z H locs ls ws h1 h2 h3 h4 h5)
theorem hw_icmp_ge (X : hw_X p m c cc nL s args Ts own g A) {x y : Int32} {off : Int} {tgt : Nat} (d : decode cc pc = .ok (.if_icmp .ge off, 3)) (ht : (pc : Int) + off = (tgt : Int)) (kt : y ≤ x → hw_J p l e R s m args below meth c Q nL g A k n tgt lv st w) (kf : ¬ y ≤ x → hw_J p l e R s m args below meth c Q nL g A k n (pc + 3) lv st w) : hw_J p l e R s m args below meth c Q nL g A k n pc lv (.int y :: .int x :: st) w := fun H locs ls ws h1 h2 h3 h4 h5 => lv_icmp_ge X.1.1 X.1.2.1 d ht (fun z => kt z H locs ls ws h1 h2 h3 h4 h5) (fun z => kf z H locs ls ws h1 h2 h3 h4 h5)
theorem hw_if_gt (X : hw_X p m c cc nL s args Ts own g A) {x : Int32} {off : Int} {tgt : Nat} (d : decode cc pc = .ok (.ifCond .gt off, 3)) (ht : (pc : Int) + off = (tgt : Int)) (kt : 0 < x → hw_J p l e R s m args below meth c Q nL g A k n tgt lv st w) (kf : ¬ 0 < x → hw_J p l e R s m args below meth c Q nL g A k n (pc + 3) lv st w) : hw_J p l e R s m args below meth c Q nL g A k n pc lv (.int x :: st) w := fun H locs ls ws h1 h2 h3 h4 h5 => lv_if_gt X.1.1 X.1.2.1 d ht (fun z => kt z H locs ls ws h1 h2 h3 h4 h5) (fun z => kf z H locs ls ws h1 h2 h3 h4 h5)
theorem hw_icmp_gt (X : hw_X p m c cc nL s args Ts own g A) {x y : Int32} {off : Int} {tgt : Nat} (d : decode cc pc = .ok (.if_icmp .gt off, 3)) (ht : (pc : Int) + off = (tgt : Int)) (kt : y < x → hw_J p l e R s m args below meth c Q nL g A k n tgt lv st w) (kf : ¬ y < x → hw_J p l e R s m args below meth c Q nL g A k n (pc + 3) lv st w) : hw_J p l e R s m args below meth c Q nL g A k n pc lv (.int y :: .int x :: st) w := fun H locs ls ws h1 h2 h3 h4 h5 => lv_icmp_gt X.1.1 X.1.2.1 d ht (fun z => kt z H locs ls ws h1 h2 h3 h4 h5) (fun z => kf z H locs ls ws h1 h2 h3 h4 h5)
theorem hw_if_le (X : hw_X p m c cc nL s args Ts own g A) {x : Int32} {off : Int} {tgt : Nat} (d : decode cc pc = .ok (.ifCond .le off, 3)) (ht : (pc : Int) + off = (tgt : Int)) (kt : x ≤ 0 → hw_J p l e R s m args below meth c Q nL g A k n tgt lv st w) (kf : ¬ x ≤ 0 → hw_J p l e R s m args below meth c Q nL g A k n (pc + 3) lv st w) : hw_J p l e R s m args below meth c Q nL g A k n pc lv (.int x :: st) w := fun H locs ls ws h1 h2 h3 h4 h5 => lv_if_le X.1.1 X.1.2.1 d ht (fun z => kt z H locs ls ws h1 h2 h3 h4 h5) (fun z => kf z H locs ls ws h1 h2 h3 h4 h5)
theorem hw_icmp_le (X : hw_X p m c cc nL s args Ts own g A) {x y : Int32} {off : Int} {tgt : Nat} (d : decode cc pc = .ok (.if_icmp .le off, 3)) (ht : (pc : Int) + off = (tgt : Int)) (kt : x ≤ y → hw_J p l e R s m args below meth c Q nL g A k n tgt lv st w) (kf : ¬ x ≤ y → hw_J p l e R s m args below meth c Q nL g A k n (pc + 3) lv st w) : hw_J p l e R s m args below meth c Q nL g A k n pc lv (.int y :: .int x :: st) w := fun H locs ls ws h1 h2 h3 h4 h5 => lv_icmp_le X.1.1 X.1.2.1 d ht (fun z => kt z H locs ls ws h1 h2 h3 h4 h5) (fun z => kf z H locs ls ws h1 h2 h3 h4 h5)
theorem hw_goto (X : hw_X p m c cc nL s args Ts own g A) {off : Int} {tgt : Nat} (d : decode cc pc = .ok (.goto off, 3)) (ht : (pc : Int) + off = (tgt : Int)) (kk : hw_J p l e R s m args below meth c Q nL g A k n tgt lv st w) : hw_J p l e R s m args below meth c Q nL g A k n pc lv st w := fun H locs ls ws h1 h2 h3 h4 h5 => lv_goto X.1.1 X.1.2.1 d ht (kk H locs ls ws h1 h2 h3 h4 h5)
theorem hw_ifnull (X : hw_X p m c cc nL s args Ts own g A) {o : Option Nat} {off : Int} {tgt : Nat} (d : decode cc pc = .ok (.ifnull off, 3)) (ht : (pc : Int) + off = (tgt : Int)) (kt : o = none → hw_J p l e R s m args below meth c Q nL g A k n tgt lv st w) (kf : ∀ a : Nat, o = some a → hw_J p l e R s m args below meth c Q nL g A k n (pc + 3) lv st w) : hw_J p l e R s m args below meth c Q nL g A k n pc lv (va_rf o :: st) w := by
  intro H locs ls ws h1 h2 h3 h4 h5
  cases o with
  | none => exact lv_ifnullN X.1.1 X.1.2.1 d ht (kt rfl H locs ls ws h1 h2 h3 h4 h5)
  | some a => exact lv_ifnull X.1.1 X.1.2.1 d (kf a rfl H locs ls ws h1 h2 h3 h4 h5)
theorem hw_ifnonnull (X : hw_X p m c cc nL s args Ts own g A) {o : Option Nat} {off : Int} {tgt : Nat} (d : decode cc pc = .ok (.ifnonnull off, 3)) (ht : (pc : Int) + off = (tgt : Int)) (kt : ∀ a : Nat, o = some a → hw_J p l e R s m args below meth c Q nL g A k n tgt lv st w) (kf : o = none → hw_J p l e R s m args below meth c Q nL g A k n (pc + 3) lv st w) : hw_J p l e R s m args below meth c Q nL g A k n pc lv (va_rf o :: st) w := by
  intro H locs ls ws h1 h2 h3 h4 h5
  cases o with
  | none => exact lv_ifnonnullN X.1.1 X.1.2.1 d (kf rfl H locs ls ws h1 h2 h3 h4 h5)
  | some a => exact lv_ifnonnull X.1.1 X.1.2.1 d ht (kt a rfl H locs ls ws h1 h2 h3 h4 h5)
theorem hw_get (X : hw_X p m c cc nL s args Ts own g A) {a ci i index : Nat} {v : Value} (F : hw_F s args Ts own index ci i) (h : hw_g w a ci i v) (d : decode cc pc = .ok (.getfield index, 3)) (kk : hw_J p l e R s m args below meth c Q nL g A k n (pc + 3) lv (v :: st) w) : hw_J p l e R s m args below meth c Q nL g A k n pc lv (.ref a :: st) w := by
  intro H locs ls ws h1 h2 h3 h4 h5
  obtain ⟨fs, e1, e2⟩ := h
  obtain ⟨q0, hq⟩ := List.getElem?_of_mem ((h2 _ _).mp e1)
  obtain ⟨C, T, N, ref, f1, f2, f3, f4, f5⟩ := F
  rcases f4 with f4 | ⟨host, f4⟩
  · exact va_get X.1.1 X.1.2.1 X.1.2.2.2.2 f3 X.1.2.2.2.1 X.2.1 h3 q0 hq f1 i f2 f4 f5 e2 d (kk H locs ls ws h1 h2 h3 h4 h5)
  · exact va_getN X.1.1 X.1.2.1 X.1.2.2.2.2 f3 X.1.2.2.2.1 X.2.1 h3 q0 hq f1 i f2 f4 f5 e2 d (kk H locs ls ws h1 h2 h3 h4 h5)
theorem hw_put (X : hw_X p m c cc nL s args Ts own g A) {a ci i index : Nat} {ty : FieldType} {v : Value} (F : hw_FP s args Ts own index ci i ty) (hn : narrow ty v = v) (hfit : fits ty v = true) (h : hw_p w a ci i v w') (d : decode cc pc = .ok (.putfield index, 3)) (kk : hw_J p l e R s m args below meth c Q nL g A k n (pc + 3) lv st w') : hw_J p l e R s m args below meth c Q nL g A k n pc lv (v :: .ref a :: st) w := by
  intro H locs ls ws h1 h2 h3 h4 h5
  obtain ⟨fs, e1, e2, e3⟩ := h
  subst e3
  obtain ⟨q0, hq⟩ := List.getElem?_of_mem ((h2 _ _).mp e1)
  obtain ⟨C, T, N, ref, ty0, f1, f2, f3, f4, f5, f6, f7, f8, f9⟩ := F
  rcases f4 with f4 | ⟨host, f4⟩
  · exact va_put X.1.1 X.1.2.1 X.1.2.2.2.2 f3 ty0 f6 f7 X.1.2.2.2.1 X.2.1 h3 h4 h5 q0 hq f1 i f2 f4 f5 f8 f9 hn hfit e2 d (fun H1 locs1 j1 j2 j3 => kk H1 locs1 ls _ h1 (hw_rep_set h2 h4 hq) j1 j2 j3)
  · exact va_putN X.1.1 X.1.2.1 X.1.2.2.2.2 f3 ty0 f6 f7 X.1.2.2.2.1 X.2.1 h3 h4 h5 q0 hq f1 i f2 f4 f5 f8 f9 hn hfit e2 d (fun H1 locs1 j1 j2 j3 => kk H1 locs1 ls _ h1 (hw_rep_set h2 h4 hq) j1 j2 j3)
theorem hw_putF (X : hw_X p m c cc nL s args Ts own g A) {a ci i index : Nat} {ty : FieldType} {v : Value} (F : hw_FF s args Ts own index ci i ty) (hi : meth.name = "<init>") (hn : narrow ty v = v) (hfit : fits ty v = true) (h : hw_p w a ci i v w') (d : decode cc pc = .ok (.putfield index, 3)) (kk : hw_J p l e R s m args below meth c Q nL g A k n (pc + 3) lv st w') : hw_J p l e R s m args below meth c Q nL g A k n pc lv (v :: .ref a :: st) w := by
  intro H locs ls ws h1 h2 h3 h4 h5
  obtain ⟨fs, e1, e2, e3⟩ := h
  subst e3
  obtain ⟨q0, hq⟩ := List.getElem?_of_mem ((h2 _ _).mp e1)
  obtain ⟨C, T, N, ref, ty0, f1, f2, f3, f4, f5, f6, f7, f8, f8b, f9⟩ := F
  exact va_putF X.1.1 X.1.2.1 X.1.2.2.2.2 f3 ty0 f6 f7 X.1.2.2.2.1 X.2.1 h3 h4 h5 q0 hq f1 i f2 f4 f5 f8 hi f8b f9 hn hfit e2 d (fun H1 locs1 j1 j2 j3 => kk H1 locs1 ls _ h1 (hw_rep_set h2 h4 hq) j1 j2 j3)
theorem hw_iald (X : hw_X p m c cc nL s args Ts own g A) {a : Nat} {i x : Int32} (h : hw_ai g 0 w a i x) (d : decode cc pc = .ok (.iaload, 1)) (kk : hw_J p l e R s m args below meth c Q nL g A k n (pc + 1) lv (.int x :: st) w) : hw_J p l e R s m args below meth c Q nL g A k n pc lv (.int i :: .ref a :: st) w := by
  intro H locs ls ws h1 h2 h3 h4 h5
  obtain ⟨n9, f, e1, e2, rfl⟩ := h
  obtain ⟨q0, hq⟩ := List.getElem?_of_mem ((h2 _ _).mp e1)
  exact va_iald X.1.1 X.1.2.1 X.2.1 h3 q0 0 hq rfl e2 d (kk H locs ls ws h1 h2 h3 h4 h5)
theorem hw_cald (X : hw_X p m c cc nL s args Ts own g A) {a : Nat} {i x : Int32} (h : hw_ai g 1 w a i x) (d : decode cc pc = .ok (.caload, 1)) (kk : hw_J p l e R s m args below meth c Q nL g A k n (pc + 1) lv (.int x :: st) w) : hw_J p l e R s m args below meth c Q nL g A k n pc lv (.int i :: .ref a :: st) w := by
  intro H locs ls ws h1 h2 h3 h4 h5
  obtain ⟨n9, f, e1, e2, rfl⟩ := h
  obtain ⟨q0, hq⟩ := List.getElem?_of_mem ((h2 _ _).mp e1)
  exact va_cald X.1.1 X.1.2.1 X.2.1 h3 q0 1 hq rfl e2 d (kk H locs ls ws h1 h2 h3 h4 h5)
theorem hw_zald (X : hw_X p m c cc nL s args Ts own g A) {a : Nat} {i x : Int32} (h : hw_ai g 2 w a i x) (d : decode cc pc = .ok (.baload, 1)) (kk : hw_J p l e R s m args below meth c Q nL g A k n (pc + 1) lv (.int x :: st) w) : hw_J p l e R s m args below meth c Q nL g A k n pc lv (.int i :: .ref a :: st) w := by
  intro H locs ls ws h1 h2 h3 h4 h5
  obtain ⟨n9, f, e1, e2, rfl⟩ := h
  obtain ⟨q0, hq⟩ := List.getElem?_of_mem ((h2 _ _).mp e1)
  exact va_zald X.1.1 X.1.2.1 X.2.1 h3 q0 2 hq rfl e2 d (kk H locs ls ws h1 h2 h3 h4 h5)
theorem hw_iast (X : hw_X p m c cc nL s args Ts own g A) {a : Nat} {i x : Int32} (h : hw_as g 0 w a i x w') (d : decode cc pc = .ok (.iastore, 1)) (kk : hw_J p l e R s m args below meth c Q nL g A k n (pc + 1) lv st w') : hw_J p l e R s m args below meth c Q nL g A k n pc lv (.int x :: .int i :: .ref a :: st) w := by
  intro H locs ls ws h1 h2 h3 h4 h5
  obtain ⟨n9, f, e1, e2, rfl⟩ := h
  obtain ⟨q0, hq⟩ := List.getElem?_of_mem ((h2 _ _).mp e1)
  exact va_iast X.1.1 X.1.2.1 X.2.1 h3 h4 h5 q0 0 hq rfl e2 d (fun H1 locs1 j1 j2 j3 => kk H1 locs1 ls _ h1 (hw_rep_set h2 h4 hq) j1 j2 j3)
theorem hw_cast (X : hw_X p m c cc nL s args Ts own g A) {a : Nat} {i x : Int32} (h : hw_as g 1 w a i (vp_nar .char x) w') (d : decode cc pc = .ok (.castore, 1)) (kk : hw_J p l e R s m args below meth c Q nL g A k n (pc + 1) lv st w') : hw_J p l e R s m args below meth c Q nL g A k n pc lv (.int x :: .int i :: .ref a :: st) w := by
  intro H locs ls ws h1 h2 h3 h4 h5
  obtain ⟨n9, f, e1, e2, rfl⟩ := h
  obtain ⟨q0, hq⟩ := List.getElem?_of_mem ((h2 _ _).mp e1)
  exact va_cast X.1.1 X.1.2.1 X.2.1 h3 h4 h5 q0 1 hq rfl e2 d (fun H1 locs1 j1 j2 j3 => kk H1 locs1 ls _ h1 (hw_rep_set h2 h4 hq) j1 j2 j3)
theorem hw_zast (X : hw_X p m c cc nL s args Ts own g A) {a : Nat} {i x : Int32} (h : hw_as g 2 w a i (vp_nar .boolean x) w') (d : decode cc pc = .ok (.bastore, 1)) (kk : hw_J p l e R s m args below meth c Q nL g A k n (pc + 1) lv st w') : hw_J p l e R s m args below meth c Q nL g A k n pc lv (.int x :: .int i :: .ref a :: st) w := by
  intro H locs ls ws h1 h2 h3 h4 h5
  obtain ⟨n9, f, e1, e2, rfl⟩ := h
  obtain ⟨q0, hq⟩ := List.getElem?_of_mem ((h2 _ _).mp e1)
  exact va_zast X.1.1 X.1.2.1 X.2.1 h3 h4 h5 q0 2 hq rfl e2 d (fun H1 locs1 j1 j2 j3 => kk H1 locs1 ls _ h1 (hw_rep_set h2 h4 hq) j1 j2 j3)
theorem hw_aald (X : hw_X p m c cc nL s args Ts own g A) {a : Nat} {i : Int32} {o : Option Nat} (h : hw_ar g w a i o) (d : decode cc pc = .ok (.aaload, 1)) (kk : hw_J p l e R s m args below meth c Q nL g A k n (pc + 1) lv (va_rf o :: st) w) : hw_J p l e R s m args below meth c Q nL g A k n pc lv (.int i :: .ref a :: st) w := by
  intro H locs ls ws h1 h2 h3 h4 h5
  obtain ⟨n9, f, e1, e2, rfl⟩ := h
  obtain ⟨q0, hq⟩ := List.getElem?_of_mem ((h2 _ _).mp e1)
  exact va_aldq X.1.1 X.1.2.1 X.2.1 h3 q0 3 hq rfl e2 d (kk H locs ls ws h1 h2 h3 h4 h5)
theorem hw_aast (X : hw_X p m c cc nL s args Ts own g A) {a b ci : Nat} {r : vw_C} {i : Int32} (hc : vwCl[ci]? = some r) (hr : r.1 = "ProofCourt$Clause") (h : hw_aw g ci w a i b w') (d : decode cc pc = .ok (.aastore, 1)) (kk : hw_J p l e R s m args below meth c Q nL g A k n (pc + 1) lv st w') : hw_J p l e R s m args below meth c Q nL g A k n pc lv (.ref b :: .int i :: .ref a :: st) w := by
  intro H locs ls ws h1 h2 h3 h4 h5
  obtain ⟨⟨fs, e0⟩, n9, f, e1, e2, rfl⟩ := h
  obtain ⟨q0, hq⟩ := List.getElem?_of_mem ((h2 _ _).mp e1)
  obtain ⟨qk, hk⟩ := List.getElem?_of_mem ((h2 _ _).mp e0)
  exact va_astq X.1.1 X.1.2.1 X.2.1 h3 h4 h5 q0 3 qk ci hq (by rw [hr]; rfl) hk hc e2 d (fun H1 locs1 j1 j2 j3 => kk H1 locs1 ls _ h1 (hw_rep_set h2 h4 hq) j1 j2 j3)
theorem hw_alen (X : hw_X p m c cc nL s args Ts own g A) {a : Nat} {x : Int32} (h : hw_al g w a x) (d : decode cc pc = .ok (.arraylength, 1)) (kk : hw_J p l e R s m args below meth c Q nL g A k n (pc + 1) lv (.int x :: st) w) : hw_J p l e R s m args below meth c Q nL g A k n pc lv (.ref a :: st) w := by
  intro H locs ls ws h1 h2 h3 h4 h5
  obtain ⟨t, n9, f, ht, e1, e2⟩ := h
  obtain ⟨q0, hq⟩ := List.getElem?_of_mem ((h2 _ _).mp e1)
  have ht2 : ∃ ty, (hw_tys g)[t]? = some (g.2.1 t, ty) := by
    rcases (show t = 0 ∨ t = 1 ∨ t = 2 ∨ t = 3 by omega) with rfl | rfl | rfl | rfl <;> exact ⟨_, rfl⟩
  obtain ⟨ty, ht2⟩ := ht2
  exact va_alen X.1.1 X.1.2.1 X.2.1 h3 q0 t hq ht2 e2 d (kk H locs ls ws h1 h2 h3 h4 h5)
theorem hw_gets (X : hw_X p m c cc nL s args Ts own g A) {index : Nat} (hl : (Cond.fieldLink own index "java/lang/String" "COMPACT_STRINGS" "Z").before args s = true) (d : decode cc pc = .ok (.getstatic index, 3)) (kk : hw_J p l e R s m args below meth c Q nL g A k n (pc + 3) lv (.int 1 :: st) w) : hw_J p l e R s m args below meth c Q nL g A k n pc lv st w := fun H locs ls ws h1 h2 h3 h4 h5 => va_gets X.1.1 X.1.2.1 X.2.2.2.2.2.2.1 h5 X.1.2.2.2.1 hl (fun _ h => h) d (kk H locs ls ws h1 h2 h3 h4 h5)
theorem hw_scoder (X : hw_X p m c cc nL s args Ts own g A) {index i : Nat} (hi : i < hw_sN) (hl : (Cond.fieldLink own index "java/lang/String" "coder" "B").before args s = true) (d : decode cc pc = .ok (.getfield index, 3)) (kk : hw_J p l e R s m args below meth c Q nL g A k n (pc + 3) lv (.int 0 :: st) w) : hw_J p l e R s m args below meth c Q nL g A k n pc lv (.ref (g.2.2.1 i) :: st) w := fun H locs ls ws h1 h2 h3 h4 h5 => vk_getf X.1.1 X.1.2.1 (X.2.2.2.2.1.1 i hi).2.1 h5 X.1.2.2.2.1 hl (fun _ h => h) d (kk H locs ls ws h1 h2 h3 h4 h5)
theorem hw_svalue (X : hw_X p m c cc nL s args Ts own g A) {index i : Nat} (hi : i < hw_sN) (hl : (Cond.fieldLink own index "java/lang/String" "value" "[B").before args s = true) (d : decode cc pc = .ok (.getfield index, 3)) (kk : hw_J p l e R s m args below meth c Q nL g A k n (pc + 3) lv (.ref (g.2.2.2 i) :: st) w) : hw_J p l e R s m args below meth c Q nL g A k n pc lv (.ref (g.2.2.1 i) :: st) w := fun H locs ls ws h1 h2 h3 h4 h5 => vk_getf X.1.1 X.1.2.1 (X.2.2.2.2.1.1 i hi).2.2.1 h5 X.1.2.2.2.1 hl (fun _ h => h) d (kk H locs ls ws h1 h2 h3 h4 h5)
theorem hw_sbald (X : hw_X p m c cc nL s args Ts own g A) {i : Nat} {x : Int32} (hi : i < hw_sN) (hx : vp_in x (hw_sLen.getD i 0)) (d : decode cc pc = .ok (.baload, 1)) (kk : hw_J p l e R s m args below meth c Q nL g A k n (pc + 1) lv (.int ((hw_sByt.getD i []).getD (x).toNatClampNeg 0) :: st) w) : hw_J p l e R s m args below meth c Q nL g A k n pc lv (.int x :: .ref (g.2.2.2 i) :: st) w := fun H locs ls ws h1 h2 h3 h4 h5 => va_tb X.1.1 X.1.2.1 (X.2.2.2.2.1.1 i hi).2.2.2 h5 hx rfl d (kk H locs ls ws h1 h2 h3 h4 h5)
theorem hw_sblen (X : hw_X p m c cc nL s args Ts own g A) {i : Nat} (hi : i < hw_sN) (d : decode cc pc = .ok (.arraylength, 1)) (kk : hw_J p l e R s m args below meth c Q nL g A k n (pc + 1) lv (.int (nI (hw_sLen.getD i 0)) :: st) w) : hw_J p l e R s m args below meth c Q nL g A k n pc lv (.ref (g.2.2.2 i) :: st) w := fun H locs ls ws h1 h2 h3 h4 h5 => va_tlen X.1.1 X.1.2.1 (X.2.2.2.2.1.1 i hi).2.2.2 h5 rfl d (kk H locs ls ws h1 h2 h3 h4 h5)
theorem hw_getsq (X : hw_X p m c cc nL s args Ts own g A) {index : Nat} (hl : (Cond.fieldLink own index "jdk/internal/util/Preconditions" "SIOOBE_FORMATTER" "Ljava/util/function/BiFunction;").before args s = true) (d : decode cc pc = .ok (.getstatic index, 3)) (kk : ∀ o : Option Nat, hw_J p l e R s m args below meth c Q nL g A k n (pc + 3) lv (va_rf o :: st) w) : hw_J p l e R s m args below meth c Q nL g A k n pc lv st w := by
  intro H locs ls ws h1 h2 h3 h4 h5
  rcases X.2.2.2.2.2.2.2.2 with hz | ⟨t, hz⟩
  · exact va_gets X.1.1 X.1.2.1 hz h5 X.1.2.2.2.1 hl (fun _ h => h) d (kk none H locs ls ws h1 h2 h3 h4 h5)
  · exact va_gets X.1.1 X.1.2.1 hz h5 X.1.2.2.2.1 hl (fun _ h => h) d (kk (some t) H locs ls ws h1 h2 h3 h4 h5)
theorem hw_new (X : hw_X p m c cc nL s args Ts own g A) {ci N index : Nat} {fs : List Value} (F : hw_N s args Ts own index ci N fs) (hc : k + 1 ≤ R.cells) (hs : n + N ≤ R.slots) (d : decode cc pc = .ok (.new index, 3)) (kk : ∀ q : Nat, w q = none → hw_J p l e R s m args below meth c Q nL g A (k + 1) (n + N) (pc + 3) lv (.ref q :: st) (va_up w q (some (.inr (ci, fs))))) : hw_J p l e R s m args below meth c Q nL g A k n pc lv st w := by
  intro H locs ls ws h1 h2 h3 h4 h5
  obtain ⟨C, T, ty, f1, f2, f3, f4, f5, f6, f7⟩ := F
  exact va_new X.1.1 X.1.2.1 X.1.2.2.2.2 f2 ty f3 X.1.2.2.2.1 f4 f5 f6 X.2.1 h3 h4 h5 X.2.2.1 f1 f7 hc hs d (fun q H1 j1 j2 j3 => kk q (hw_fresh h2 j2) H1 locs ls _ h1 (hw_rep_push h2 (hw_fresh h2 j2)) j1 j2 j3)
theorem hw_tys_one {t : Nat} {ty : FieldType} {cA : ClassId} (hn : ∀ C, ty ≠ .object C) (hK : va_K g.1 vwCl (hw_tys g ++ [(cA, ty)]) s) (ht : (hw_tys g)[t]? = some (g.2.1 t, ty)) : cA = g.2.1 t := by
  have h1 := (hK.2 4 (cA, ty) rfl).2
  have h2 := (hK.2 t (g.2.1 t, ty) (by rw [List.getElem?_append_left (List.getElem?_eq_some_iff.mp ht).1]; exact ht)).2
  cases ty <;> first | exact absurd rfl (hn _) | exact Option.some.inj (h1.symm.trans h2)
theorem hw_tys_obj {t : Nat} {C : String} {cA : ClassId} (hK : va_K g.1 vwCl (hw_tys g ++ [(cA, .object C)]) s) (ht : (hw_tys g)[t]? = some (g.2.1 t, .object C)) : cA = g.2.1 t := by
  obtain ⟨_, _, _, _, _, h1⟩ := (hK.2 4 (cA, .object C) rfl).2
  obtain ⟨_, _, _, _, _, h2⟩ := (hK.2 t (g.2.1 t, .object C) (by rw [List.getElem?_append_left (List.getElem?_eq_some_iff.mp ht).1]; exact ht)).2
  exact Option.some.inj (h1.symm.trans h2)
theorem hw_newa (X : hw_X p m c cc nL s args Ts own g A) {t N : Nat} {at_ : ArrayType} {ty : FieldType} {x : Int32} (ha : (Cond.arrayClass (newarray.typeOf at_)).before args s = true) (hty : newarray.typeOf at_ = ty) (ht : (hw_tys g)[t]? = some (g.2.1 t, ty)) (hob : ∀ C, ty ≠ .object C) (hdv : defaultValue ty = .int 0) (hx : ¬ x < 0) (hN : x.toNatClampNeg = N) (hby : N * componentBytes ty ≤ 536870912) (hc : k + 1 ≤ R.cells) (hs : n + N ≤ R.slots) (d : decode cc pc = .ok (.newarray at_, 2)) (kk : ∀ q : Nat, w q = none → hw_J p l e R s m args below meth c Q nL g A (k + 1) (n + N) (pc + 2) lv (.ref q :: st) (va_up w q (some (.inl (g.2.1 t, N, .inl (fun _ => 0)))))) : hw_J p l e R s m args below meth c Q nL g A k n pc lv (.int x :: st) w := by
  intro H locs ls ws h1 h2 h3 h4 h5
  refine va_newa (a0 := (N, .inl (fun _ => 0))) X.1.1 X.1.2.1 ha hty X.2.1 h3 h4 h5 X.2.2.1 (fun cA => by rw [hdv]; exact vp_cell_i _ _ _) hx hN hby hc hs d (fun q cA H1 j0 j1 j2 j3 => ?_)
  have e : cA = g.2.1 t := hw_tys_one hob j0 ht
  subst e
  exact kk q (hw_fresh h2 j2) H1 locs ls _ h1 (hw_rep_push h2 (hw_fresh h2 j2)) j1 j2 j3
theorem hw_newq (X : hw_X p m c cc nL s args Ts own g A) {N index : Nat} {x : Int32} (hl : (Cond.classLink own index "ProofCourt$Clause").before args s = true) (ho : va_AO "ProofCourt$Clause" s) (hx : ¬ x < 0) (hN : x.toNatClampNeg = N) (hby : N * 4 ≤ 536870912) (hc : k + 1 ≤ R.cells) (hs : n + N ≤ R.slots) (d : decode cc pc = .ok (.anewarray index, 3)) (kk : ∀ q : Nat, w q = none → hw_J p l e R s m args below meth c Q nL g A (k + 1) (n + N) (pc + 3) lv (.ref q :: st) (va_up w q (some (.inl (g.2.1 3, N, .inr (.inr (.inr (.inr (fun _ => none))))))))) : hw_J p l e R s m args below meth c Q nL g A k n pc lv (.int x :: st) w := by
  intro H locs ls ws h1 h2 h3 h4 h5
  refine va_newq X.1.1 X.1.2.1 X.1.2.2.2.1 hl ho X.2.1 h3 h4 h5 X.2.2.1 hx hN hby hc hs d (fun q cA H1 j0 j1 j2 j3 => ?_)
  have e : cA = g.2.1 3 := hw_tys_obj j0 rfl
  subst e
  exact kk q (hw_fresh h2 j2) H1 locs ls _ h1 (hw_rep_push h2 (hw_fresh h2 j2)) j1 j2 j3
theorem hw_widen {k' n' : Nat} (hk : k ≤ k') (hn : n ≤ n') (kk : hw_J p l e R s m args below meth c Q nL g A k' n' pc lv st w) : hw_J p l e R s m args below meth c Q nL g A k n pc lv st w := fun H locs ls ws h1 h2 h3 h4 h5 => W.widen hk hn (kk H locs ls ws h1 h2 h3 h4 h5)
theorem hw_top {x : Int32} (kk : ∀ y : Int32, y = x → hw_J p l e R s m args below meth c Q nL g A k n pc lv (.int y :: st) w) : hw_J p l e R s m args below meth c Q nL g A k n pc lv (.int x :: st) w := kk x rfl
end HW
/-- the script of a law; a switch of twelve -/
def hw_scr (s : State) (A : Nat → Prop) (b L : Nat) (xs : Nat → Int32) : Prop := va_X b L xs s s.heap ∧ b < s.heap.size ∧ ¬ A b
section HX
variable {p : Program} {l : Launch} {e : Env} {R : Room} {s : State} {m : MethodId} {args : Array Value} {below : List Frame} {meth : Method} {c : Code} {Q : State → Prop} {cc : ByteArray} {nL : Nat} {Ts : List Cond} {own : String} {g : hw_G} {A : Nat → Prop} {k n pc : Nat} {lv : List (Option Value)} {st : List Value} {w : hw_H}
theorem hw_xld (X : hw_X p m c cc nL s args Ts own g A) {b L : Nat} {xs : Nat → Int32} (hX : hw_scr s A b L xs) {i : Int32} (hi : vp_in i L) (d : decode cc pc = .ok (.iaload, 1)) (kk : hw_J p l e R s m args below meth c Q nL g A k n (pc + 1) lv (.int (xs (i).toNatClampNeg) :: st) w) : hw_J p l e R s m args below meth c Q nL g A k n pc lv (.int i :: .ref b :: st) w := fun H locs ls ws h1 h2 h3 h4 h5 => va_sld X.1.1 X.1.2.1 hX.1 hX.2.1 hX.2.2 h5 hi d (kk H locs ls ws h1 h2 h3 h4 h5)
theorem hw_xlen (X : hw_X p m c cc nL s args Ts own g A) {b L : Nat} {xs : Nat → Int32} (hX : hw_scr s A b L xs) (d : decode cc pc = .ok (.arraylength, 1)) (kk : hw_J p l e R s m args below meth c Q nL g A k n (pc + 1) lv (.int (Int32.ofNat L) :: st) w) : hw_J p l e R s m args below meth c Q nL g A k n pc lv (.ref b :: st) w := fun H locs ls ws h1 h2 h3 h4 h5 => va_slen X.1.1 X.1.2.1 hX.1 hX.2.1 hX.2.2 h5 d (kk H locs ls ws h1 h2 h3 h4 h5)
theorem hw_sw12 (X : hw_X p m c cc nL s args Ts own g A) {x : Int32} {dflt : Int} {offs : Array Int} {len : Nat} {o0 o1 o2 o3 o4 o5 o6 o7 o8 o9 o10 o11 : Int} {t0 t1 t2 t3 t4 t5 t6 t7 t8 t9 t10 t11 td : Nat} (d : decode cc pc = .ok (.tableswitch dflt 0 11 offs, len)) (a0 : offs[0]? = some o0) (b0 : (pc : Int) + o0 = (t0 : Int)) (a1 : offs[1]? = some o1) (b1 : (pc : Int) + o1 = (t1 : Int)) (a2 : offs[2]? = some o2) (b2 : (pc : Int) + o2 = (t2 : Int)) (a3 : offs[3]? = some o3) (b3 : (pc : Int) + o3 = (t3 : Int)) (a4 : offs[4]? = some o4) (b4 : (pc : Int) + o4 = (t4 : Int)) (a5 : offs[5]? = some o5) (b5 : (pc : Int) + o5 = (t5 : Int)) (a6 : offs[6]? = some o6) (b6 : (pc : Int) + o6 = (t6 : Int)) (a7 : offs[7]? = some o7) (b7 : (pc : Int) + o7 = (t7 : Int)) (a8 : offs[8]? = some o8) (b8 : (pc : Int) + o8 = (t8 : Int)) (a9 : offs[9]? = some o9) (b9 : (pc : Int) + o9 = (t9 : Int)) (a10 : offs[10]? = some o10) (b10 : (pc : Int) + o10 = (t10 : Int)) (a11 : offs[11]? = some o11) (b11 : (pc : Int) + o11 = (t11 : Int)) (bd : (pc : Int) + dflt = (td : Int)) (k0 : x = (0 : Int32) → hw_J p l e R s m args below meth c Q nL g A k n t0 lv st w) (k1 : x = (1 : Int32) → hw_J p l e R s m args below meth c Q nL g A k n t1 lv st w) (k2 : x = (2 : Int32) → hw_J p l e R s m args below meth c Q nL g A k n t2 lv st w) (k3 : x = (3 : Int32) → hw_J p l e R s m args below meth c Q nL g A k n t3 lv st w) (k4 : x = (4 : Int32) → hw_J p l e R s m args below meth c Q nL g A k n t4 lv st w) (k5 : x = (5 : Int32) → hw_J p l e R s m args below meth c Q nL g A k n t5 lv st w) (k6 : x = (6 : Int32) → hw_J p l e R s m args below meth c Q nL g A k n t6 lv st w) (k7 : x = (7 : Int32) → hw_J p l e R s m args below meth c Q nL g A k n t7 lv st w) (k8 : x = (8 : Int32) → hw_J p l e R s m args below meth c Q nL g A k n t8 lv st w) (k9 : x = (9 : Int32) → hw_J p l e R s m args below meth c Q nL g A k n t9 lv st w) (k10 : x = (10 : Int32) → hw_J p l e R s m args below meth c Q nL g A k n t10 lv st w) (k11 : x = (11 : Int32) → hw_J p l e R s m args below meth c Q nL g A k n t11 lv st w) (kd : x.toInt < 0 ∨ 11 < x.toInt → hw_J p l e R s m args below meth c Q nL g A k n td lv st w) : hw_J p l e R s m args below meth c Q nL g A k n pc lv (.int x :: st) w := by
  intro H locs ls ws h1 h2 h3 h4 h5
  by_cases hx : x.toInt < 0 ∨ 11 < x.toInt
  · exact lv_tableOut X.1.1 X.1.2.1 d hx bd (kd hx H locs ls ws h1 h2 h3 h4 h5)
  · have q0 : ¬ x.toInt < 0 := fun z => hx (Or.inl z)
    have q1 : ¬ (11 : Int) < x.toInt := fun z => hx (Or.inr z)
    have hc : x.toInt = 0 ∨ x.toInt = 1 ∨ x.toInt = 2 ∨ x.toInt = 3 ∨ x.toInt = 4 ∨ x.toInt = 5 ∨ x.toInt = 6 ∨ x.toInt = 7 ∨ x.toInt = 8 ∨ x.toInt = 9 ∨ x.toInt = 10 ∨ x.toInt = 11 := by omega
    rcases hc with hc | hc | hc | hc | hc | hc | hc | hc | hc | hc | hc | hc
    · exact lv_tableIn X.1.1 X.1.2.1 d q0 q1 (by rw [hc]; exact a0) b0 (k0 (Int32.toInt_inj.mp (by rw [hc]; rfl)) H locs ls ws h1 h2 h3 h4 h5)
    · exact lv_tableIn X.1.1 X.1.2.1 d q0 q1 (by rw [hc]; exact a1) b1 (k1 (Int32.toInt_inj.mp (by rw [hc]; rfl)) H locs ls ws h1 h2 h3 h4 h5)
    · exact lv_tableIn X.1.1 X.1.2.1 d q0 q1 (by rw [hc]; exact a2) b2 (k2 (Int32.toInt_inj.mp (by rw [hc]; rfl)) H locs ls ws h1 h2 h3 h4 h5)
    · exact lv_tableIn X.1.1 X.1.2.1 d q0 q1 (by rw [hc]; exact a3) b3 (k3 (Int32.toInt_inj.mp (by rw [hc]; rfl)) H locs ls ws h1 h2 h3 h4 h5)
    · exact lv_tableIn X.1.1 X.1.2.1 d q0 q1 (by rw [hc]; exact a4) b4 (k4 (Int32.toInt_inj.mp (by rw [hc]; rfl)) H locs ls ws h1 h2 h3 h4 h5)
    · exact lv_tableIn X.1.1 X.1.2.1 d q0 q1 (by rw [hc]; exact a5) b5 (k5 (Int32.toInt_inj.mp (by rw [hc]; rfl)) H locs ls ws h1 h2 h3 h4 h5)
    · exact lv_tableIn X.1.1 X.1.2.1 d q0 q1 (by rw [hc]; exact a6) b6 (k6 (Int32.toInt_inj.mp (by rw [hc]; rfl)) H locs ls ws h1 h2 h3 h4 h5)
    · exact lv_tableIn X.1.1 X.1.2.1 d q0 q1 (by rw [hc]; exact a7) b7 (k7 (Int32.toInt_inj.mp (by rw [hc]; rfl)) H locs ls ws h1 h2 h3 h4 h5)
    · exact lv_tableIn X.1.1 X.1.2.1 d q0 q1 (by rw [hc]; exact a8) b8 (k8 (Int32.toInt_inj.mp (by rw [hc]; rfl)) H locs ls ws h1 h2 h3 h4 h5)
    · exact lv_tableIn X.1.1 X.1.2.1 d q0 q1 (by rw [hc]; exact a9) b9 (k9 (Int32.toInt_inj.mp (by rw [hc]; rfl)) H locs ls ws h1 h2 h3 h4 h5)
    · exact lv_tableIn X.1.1 X.1.2.1 d q0 q1 (by rw [hc]; exact a10) b10 (k10 (Int32.toInt_inj.mp (by rw [hc]; rfl)) H locs ls ws h1 h2 h3 h4 h5)
    · exact lv_tableIn X.1.1 X.1.2.1 d q0 q1 (by rw [hc]; exact a11) b11 (k11 (Int32.toInt_inj.mp (by rw [hc]; rfl)) H locs ls ws h1 h2 h3 h4 h5)
end HX
