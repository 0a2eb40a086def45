theorem ls_71 : Cond.instantiable "ProofCourt$Text" 6 ∈ lw_tbl := List.mem_of_getElem? (i := 71) (by decide +kernel)
theorem ls_101 : Cond.instantiable "ProofCourt$Proof" 4 ∈ lw_tbl := List.mem_of_getElem? (i := 101) (by decide +kernel)
theorem ls_126 : Cond.instantiable "ProofCourt$Search" 15 ∈ lw_tbl := List.mem_of_getElem? (i := 126) (by decide +kernel)
theorem ls_182 : Cond.instantiable "ProofCourt$Formula" 4 ∈ lw_tbl := List.mem_of_getElem? (i := 182) (by decide +kernel)
theorem ls_63 : Cond.instantiable "ProofCourt" 4 ∈ lw_tbl := List.mem_of_getElem? (i := 63) (by decide +kernel)
theorem ls_358 : Cond.instantiable "ProofCourt$Clause" 4 ∈ lw_tbl := List.mem_of_getElem? (i := 358) (by decide +kernel)
theorem ls_516 : Cond.instantiable "ProofCourt$Line" 4 ∈ lw_tbl := List.mem_of_getElem? (i := 516) (by decide +kernel)
theorem ls_570 : Cond.instantiable "ProofCourt$Check" 4 ∈ lw_tbl := List.mem_of_getElem? (i := 570) (by decide +kernel)
theorem ls_617 : Cond.instantiable "ProofCourtModel" 21 ∈ lw_tbl := List.mem_of_getElem? (i := 617) (by decide +kernel)
theorem ls_180 : Cond.arrayClass .int ∈ lw_tbl := List.mem_of_getElem? (i := 180) (by decide +kernel)
theorem ls_99 : Cond.arrayClass .char ∈ lw_tbl := List.mem_of_getElem? (i := 99) (by decide +kernel)
theorem ls_686 : Cond.arrayClass .boolean ∈ lw_tbl := List.mem_of_getElem? (i := 686) (by decide +kernel)
theorem ls_107 : Cond.arrayOver (.object "ProofCourt$Clause") ∈ lw_tbl := List.mem_of_getElem? (i := 107) (by decide +kernel)
theorem ls_273 : Cond.stringRef "ProofCourt$Text" 75 "c" ∈ lw_tbl := List.mem_of_getElem? (i := 273) (by decide +kernel)
theorem ls_334 : Cond.stringRef "ProofCourt$Formula" 30 "p" ∈ lw_tbl := List.mem_of_getElem? (i := 334) (by decide +kernel)
theorem ls_339 : Cond.stringRef "ProofCourt$Formula" 36 "cnf" ∈ lw_tbl := List.mem_of_getElem? (i := 339) (by decide +kernel)
theorem ls_542 : Cond.stringRef "ProofCourt$Line" 33 "d" ∈ lw_tbl := List.mem_of_getElem? (i := 542) (by decide +kernel)
theorem ls_287 : Cond.laysStatic "java/lang/String" "COMPACT_STRINGS" "Z" ∈ lw_tbl := List.mem_of_getElem? (i := 287) (by decide +kernel)
theorem ls_54 : Cond.initialized "java/lang/String" ∈ lw_tbl := List.mem_of_getElem? (i := 54) (by decide +kernel)
theorem ls_303 : Cond.laysStatic "jdk/internal/util/Preconditions" "SIOOBE_FORMATTER" "Ljava/util/function/BiFunction;" ∈ lw_tbl := List.mem_of_getElem? (i := 303) (by decide +kernel)
theorem ls_56 : Cond.initialized "jdk/internal/util/Preconditions" ∈ lw_tbl := List.mem_of_getElem? (i := 56) (by decide +kernel)
theorem ls_48 : Cond.initialized "ProofCourt" ∈ lw_tbl := List.mem_of_getElem? (i := 48) (by decide +kernel)
theorem ls_nest : hw_nest = [72, 79, 82, 83, 84, 102, 109, 111, 112, 115, 127, 137, 139, 141, 189, 190, 192, 193, 194, 195, 196, 364, 365, 367, 368, 369, 371, 372, 373, 374, 376, 392, 432, 457, 475, 505, 522, 523, 525, 526, 528, 529, 530, 531, 592, 598, 603].filterMap (fun i => lw_tbl[i]?) := by decide +kernel
theorem hw_Nw_of {w : Cond} (h : hw_isN w = true) {A : Array Value} {s : State} (hb : w.before A s = true) : va_Nw w s := by
  cases w <;> first | exact va_Nw.of rfl hb | (simp [hw_isN] at h; done)
theorem ls_arr {s : State} {args : Array Value} {ty : FieldType} (hn : ∀ C, ty ≠ .object C) (h : (Cond.arrayClass ty).before args s = true) : ∃ cA : ClassId, ArrOfT s cA ty ∧ va_RA s cA ty := by
  obtain ⟨cA, kA, comp, h1, h2, h3⟩ := Cond.arrayClass_spec h
  refine ⟨cA, fun n z => ⟨fun k h => (by cases h), kA, h2, comp, h3⟩, ?_⟩
  cases ty <;> first | exact absurd rfl (hn _) | exact h1
theorem ls_arq {s : State} {args : Array Value} {C : String} (h : (Cond.arrayOver (.object C)).before args s = true) : ∃ cA : ClassId, ArrOfT s cA (.object C) ∧ va_RA s cA (.object C) := by
  obtain ⟨comp, cA, kA, h1, h2, h3, h4, h5⟩ := Cond.arrayOver_spec h
  exact ⟨cA, fun n z => ⟨fun k h => (by cases h), kA, h3, comp, h4⟩, kA, comp, h3, h4, h1, h5⟩
set_option maxHeartbeats 4000000 in
set_option maxRecDepth 100000 in
theorem ls_K {s : State} {args : Array Value} (hts : ∀ w ∈ lw_tbl, w.before args s = true) : ∃ (D : va_G) (ct : Nat → ClassId), ∀ aK aV : Nat → Nat, va_K D vwCl (hw_tys (D, ct, aK, aV)) s := by
  obtain ⟨c0, i0, k0⟩ := u_known (C := "ProofCourt$Text") (T := ft_Te) (N := 6) hts (fun w h => (List.mem_filter.mp (uw_Te w h)).1) (hts _ ls_71)
  obtain ⟨c1, i1, k1⟩ := u_known (C := "ProofCourt$Proof") (T := ft_Pr) (N := 4) hts (fun w h => (List.mem_filter.mp (uw_Pr w h)).1) (hts _ ls_101)
  obtain ⟨c2, i2, k2⟩ := u_known (C := "ProofCourt$Search") (T := ft_Se) (N := 15) hts (fun w h => (List.mem_filter.mp (uw_Se w h)).1) (hts _ ls_126)
  obtain ⟨c3, i3, k3⟩ := u_known (C := "ProofCourt$Formula") (T := ft_Fo) (N := 4) hts (fun w h => (List.mem_filter.mp (uw_Fo w h)).1) (hts _ ls_182)
  obtain ⟨c4, i4, k4⟩ := u_known (C := "ProofCourt") (T := ft_Co) (N := 4) hts (fun w h => (List.mem_filter.mp (uw_Co w h)).1) (hts _ ls_63)
  obtain ⟨c5, i5, k5⟩ := u_known (C := "ProofCourt$Clause") (T := ft_Cl) (N := 4) hts (fun w h => (List.mem_filter.mp (uw_Cl w h)).1) (hts _ ls_358)
  obtain ⟨c6, i6, k6⟩ := u_known (C := "ProofCourt$Line") (T := ft_Li) (N := 4) hts (fun w h => (List.mem_filter.mp (uw_Li w h)).1) (hts _ ls_516)
  obtain ⟨c7, i7, k7⟩ := u_known (C := "ProofCourt$Check") (T := ft_Ck) (N := 4) hts (fun w h => (List.mem_filter.mp (uw_Ck w h)).1) (hts _ ls_570)
  obtain ⟨c8, i8, k8⟩ := u_known (C := "ProofCourtModel") (T := ft_Mo) (N := 21) hts (fun w h => (List.mem_filter.mp (uw_Mo w h)).1) (hts _ ls_617)
  obtain ⟨a0, b0⟩ := ls_arr (ty := .int) (fun _ z => by cases z) (hts _ ls_180)
  obtain ⟨a1, b1⟩ := ls_arr (ty := .char) (fun _ z => by cases z) (hts _ ls_99)
  obtain ⟨a2, b2⟩ := ls_arr (ty := .boolean) (fun _ z => by cases z) (hts _ ls_686)
  obtain ⟨a3, b3⟩ := ls_arq (hts _ ls_107)
  refine ⟨(fun c => [c0, c1, c2, c3, c4, c5, c6, c7, c8].getD c 0, fun c => [i0, i1, i2, i3, i4, i5, i6, i7, i8].getD c (fun _ => 0)), fun t => [a0, a1, a2, a3].getD t 0, fun aK aV => ⟨fun c q hq => ?_, fun k q hk => ?_⟩⟩
  · have hc := (List.getElem?_eq_some_iff.mp hq).1
    have hc : c < 9 := hc
    rcases (show c = 0 ∨ c = 1 ∨ c = 2 ∨ c = 3 ∨ c = 4 ∨ c = 5 ∨ c = 6 ∨ c = 7 ∨ c = 8 by omega) with rfl | rfl | rfl | rfl | rfl | rfl | rfl | rfl | rfl
    · have e : q = ("ProofCourt$Text", ft_Te, 6) := Option.some.inj (hq.symm.trans rfl)
      subst e
      exact k0
    · have e : q = ("ProofCourt$Proof", ft_Pr, 4) := Option.some.inj (hq.symm.trans rfl)
      subst e
      exact k1
    · have e : q = ("ProofCourt$Search", ft_Se, 15) := Option.some.inj (hq.symm.trans rfl)
      subst e
      exact k2
    · have e : q = ("ProofCourt$Formula", ft_Fo, 4) := Option.some.inj (hq.symm.trans rfl)
      subst e
      exact k3
    · have e : q = ("ProofCourt", ft_Co, 4) := Option.some.inj (hq.symm.trans rfl)
      subst e
      exact k4
    · have e : q = ("ProofCourt$Clause", ft_Cl, 4) := Option.some.inj (hq.symm.trans rfl)
      subst e
      exact k5
    · have e : q = ("ProofCourt$Line", ft_Li, 4) := Option.some.inj (hq.symm.trans rfl)
      subst e
      exact k6
    · have e : q = ("ProofCourt$Check", ft_Ck, 4) := Option.some.inj (hq.symm.trans rfl)
      subst e
      exact k7
    · have e : q = ("ProofCourtModel", ft_Mo, 21) := Option.some.inj (hq.symm.trans rfl)
      subst e
      exact k8
  · have hc := (List.getElem?_eq_some_iff.mp hk).1
    have hc : k < 4 := hc
    rcases (show k = 0 ∨ k = 1 ∨ k = 2 ∨ k = 3 by omega) with rfl | rfl | rfl | rfl
    · have e : q = (a0, .int) := Option.some.inj (hk.symm.trans rfl)
      subst e
      exact b0
    · have e : q = (a1, .char) := Option.some.inj (hk.symm.trans rfl)
      subst e
      exact b1
    · have e : q = (a2, .boolean) := Option.some.inj (hk.symm.trans rfl)
      subst e
      exact b2
    · have e : q = (a3, .object "ProofCourt$Clause") := Option.some.inj (hk.symm.trans rfl)
      subst e
      exact b3
set_option maxHeartbeats 4000000 in
set_option maxRecDepth 100000 in
theorem ls_S {s : State} {args : Array Value} {A : Nat → Prop} (hgv : (Jvm.Cond.and given_1 narrow_1).before args s = true) (hA : ∀ a : Nat, a < s.heap.size → ¬ A a) : ∃ aK aV : Nat → Nat, vk_S hw_sN hw_sLen hw_sByt aK aV A s s.heap ∧ ∀ i : Nat, i < hw_sN → ((fun i => [Term.string "ProofCourt$Text" 75, Term.string "ProofCourt$Formula" 30, Term.string "ProofCourt$Formula" 36, Term.string "ProofCourt$Line" 33].getD i (Term.int 0) : Nat → Term) i).eval args s none [] s = some (.ref (aK i)) := by
  have hs := flat_of_before _ hgv
  refine vk_Sof (N := hw_sN) (tm := (fun i => [Term.string "ProofCourt$Text" 75, Term.string "ProofCourt$Formula" 30, Term.string "ProofCourt$Formula" 36, Term.string "ProofCourt$Line" 33].getD i (Term.int 0) : Nat → Term)) (len := hw_sLen) (byt := hw_sByt) ?_ ?_ ?_ ?_ ?_ ?_ ?_ hA
  · decide
  · intro i hi
    have hi : i < 4 := hi
    rcases (show i = 0 ∨ i = 1 ∨ i = 2 ∨ i = 3 by omega) with rfl | rfl | rfl | rfl <;> exact hs _ (by decide +kernel)
  · intro i hi
    have hi : i < 4 := hi
    rcases (show i = 0 ∨ i = 1 ∨ i = 2 ∨ i = 3 by omega) with rfl | rfl | rfl | rfl <;> exact hs _ (by decide +kernel)
  · intro i hi
    have hi : i < 4 := hi
    rcases (show i = 0 ∨ i = 1 ∨ i = 2 ∨ i = 3 by omega) with rfl | rfl | rfl | rfl <;> exact hs _ (by decide +kernel)
  · intro i hi
    have hi : i < 4 := hi
    rcases (show i = 0 ∨ i = 1 ∨ i = 2 ∨ i = 3 by omega) with rfl | rfl | rfl | rfl <;> exact hs _ (by decide +kernel)
  · intro i hi j hj
    have hi : i < 4 := hi
    rcases (show i = 0 ∨ i = 1 ∨ i = 2 ∨ i = 3 by omega) with rfl | rfl | rfl | rfl
    · have hj : j < 1 := hj
      rcases (show j = 0 by omega) with rfl <;> exact hs _ (by decide +kernel)
    · have hj : j < 1 := hj
      rcases (show j = 0 by omega) with rfl <;> exact hs _ (by decide +kernel)
    · have hj : j < 3 := hj
      rcases (show j = 0 ∨ j = 1 ∨ j = 2 by omega) with rfl | rfl | rfl <;> exact hs _ (by decide +kernel)
    · have hj : j < 1 := hj
      rcases (show j = 0 by omega) with rfl <;> exact hs _ (by decide +kernel)
  · intro i j hi hj hne
    have hi : i < 4 := hi
    have hj : j < 4 := hj
    rcases (show i = 0 ∨ i = 1 ∨ i = 2 ∨ i = 3 by omega) with rfl | rfl | rfl | rfl <;> rcases (show j = 0 ∨ j = 1 ∨ j = 2 ∨ j = 3 by omega) with rfl | rfl | rfl | rfl <;> first | exact absurd rfl hne | exact Or.inl (hs _ (by decide +kernel)) | exact Or.inr (hs _ (by decide +kernel))
set_option maxHeartbeats 4000000 in
set_option maxRecDepth 100000 in
theorem ls_all {s : State} {args : Array Value} {A : Nat → Prop} (hts : ∀ w ∈ lw_tbl, w.before args s = true) (hgv : (Jvm.Cond.and given_1 narrow_1).before args s = true) (hA : ∀ a : Nat, a < s.heap.size → ¬ A a) : ∃ g : hw_G, va_K g.1 vwCl (hw_tys g) s ∧ hw_E g A s s.heap := by
  obtain ⟨D, ct, hK⟩ := ls_K hts
  obtain ⟨aK, aV, hS, hev⟩ := ls_S hgv hA
  have hs := flat_of_before _ hgv
  refine ⟨(D, ct, aK, aV), hK aK aV, fun w hw => ?_, hS, fun x hx => ?_, ?_, ?_, ?_⟩
  · refine hw_Nw_of (List.all_eq_true.mp hw_nest_ok w hw) (A := args) (hts w ?_)
    rw [ls_nest] at hw
    obtain ⟨i, -, hi⟩ := List.mem_filterMap.mp hw
    exact List.mem_of_getElem? hi
  · obtain ⟨j, hj⟩ := List.mem_iff_getElem?.mp hx
    have hl := (List.getElem?_eq_some_iff.mp hj).1
    have hl : j < 4 := hl
    rcases (show j = 0 ∨ j = 1 ∨ j = 2 ∨ j = 3 by omega) with rfl | rfl | rfl | rfl
    · have e : x = ("ProofCourt$Text", 75, "c", 0) := Option.some.inj (hj.symm.trans rfl)
      subst e
      exact vk_R.of (A := args) (hts _ ls_273) (hev 0 (by decide))
    · have e : x = ("ProofCourt$Formula", 30, "p", 1) := Option.some.inj (hj.symm.trans rfl)
      subst e
      exact vk_R.of (A := args) (hts _ ls_334) (hev 1 (by decide))
    · have e : x = ("ProofCourt$Formula", 36, "cnf", 2) := Option.some.inj (hj.symm.trans rfl)
      subst e
      exact vk_R.of (A := args) (hts _ ls_339) (hev 2 (by decide))
    · have e : x = ("ProofCourt$Line", 33, "d", 3) := Option.some.inj (hj.symm.trans rfl)
      subst e
      exact vk_R.of (A := args) (hts _ ls_542) (hev 3 (by decide))
  · exact va_Zof (hts _ ls_287) (hts _ ls_54) (va_eqi (hs _ (by decide +kernel))) hA
  · exact va_AO.of (hts _ ls_107)
  · exact va_Zqof (hts _ ls_303) (hts _ ls_56) (hs _ (by decide +kernel)) hA
theorem ls_law {s : State} {args : Array Value} (hts : ∀ w ∈ lw_tbl, w.before args s = true) : ∀ w ∈ mw_La_law, w.before args s = true := by
  intro w hw
  rcases List.mem_cons.mp hw with h | h
  · rw [h]; exact hts _ ls_48
  · exact hts w (List.mem_filter.mp h).1
