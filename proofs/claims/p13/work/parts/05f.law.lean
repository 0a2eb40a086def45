section
variable {p : Program} {l : Launch} {e : Env} {R : Room} {s : State} {m : MethodId} {args : Array Value} {below : List Frame} {meth : Method} {c : Code} {Q : State → Prop} {g : hw_G} {A : Nat → Prop} {k n : Nat} {w : hw_H}
def vc_La_law_0 (l : Launch) (g : hw_G) (R : Room) (K : Nat → Nat → Nat → List (Option Value) → List Value → hw_H → Prop) (PR : Nat → Nat → Int32 → hw_H → Prop) (k n : Nat) (b L : Nat) (xs : Nat → Int32)  (w : hw_H) : Prop := (k + 1 ≤ R.cells ∧ n + 4 ≤ R.slots) ∧ ∀ (q1 : Nat) (w2 : hw_H), w q1 = none → w2 = va_up w q1 (some (.inr (4, [.null, .null, .null, .null]))) → (hw_cv l g R (k + 1) (n + 4) ym_Co_init (mw_Co_init) 1 [.ref q1] w2 (fun (k4 n5 : Nat) (w3 : hw_H) => (k4 + 1 ≤ R.cells ∧ n5 + 21 ≤ R.slots) ∧ ∀ (q6 : Nat) (w7 : hw_H), w3 q6 = none → w7 = va_up w3 q6 (some (.inr (8, [.null, .int 0, .int 0, .null, .null, .int 0, .int 0, .int 0, .int 0, .null, .null, .null, .int 0, .int 0, .int 0, .int 0, .int 0, .null, .null, .null, .int 0]))) → (hw_cv l g R (k4 + 1) (n5 + 21) ym_Mo_init (mw_Mo_init) 1 [.ref q6] w7 (fun (k9 n10 : Nat) (w8 : hw_H) => K k9 n10 18 [some (.ref b), some (.ref q1), some (.ref q6), some (.int (0 : Int32))] [] w8))))
set_option maxHeartbeats 4000000 in
set_option maxRecDepth 100000 in
theorem sg_La_law_0 (X : hw_X p m c cb_La_law 4 s args (mw_La_law) "ProofCourtLaw" g A) {K : Nat → Nat → Nat → List (Option Value) → List Value → hw_H → Prop} {PR : Nat → Nat → Int32 → hw_H → Prop} (hK : ∀ (k n pc : Nat) (lv : List (Option Value)) (st : List Value) (w : hw_H), K k n pc lv st w → hw_J p l e R s m args below meth c Q 4 g A k n pc lv st w) (rt : ∀ {k n pc : Nat} {lv : List (Option Value)} {x : Int32} {w : hw_H}, decode cb_La_law pc = .ok (.ireturn, 1) → PR k n x w → hw_J p l e R s m args below meth c Q 4 g A k n pc lv [.int x] w) {b L : Nat} {xs : Nat → Int32}  (hX : hw_scr s A b L xs) (vc : vc_La_law_0 l g R K PR k n b L xs  w) : hw_J p l e R s m args below meth c Q 4 g A k n 0 [some (.ref b), none, none, none] [] w := by
  unfold vc_La_law_0 at vc
  refine hw_new X (ne_La_7 X) vc.1.1 vc.1.2 dd_La_law_0 (fun q1 hq => ?_)
  replace vc := vc.2 q1 _ hq rfl
  refine hw_dup X rfl dd_La_law_3 ?_
  obtain ⟨rm9, po9, hM9, hf9, hc9, vc⟩ := vc
  refine hw_callIv X (As := []) (ye_La_9 X) hM9 rfl hf9 hc9 (Nat.le_of_ble_eq_true rfl) rfl dd_La_law_4 (fun w3 hp => ?_)
  replace vc := vc w3 hp
  refine hw_astore_n X (Or.inr ⟨_, rfl⟩) dd_La_law_7 (by decide) rfl ?_
  refine hw_new X (ne_La_10 X) vc.1.1 vc.1.2 dd_La_law_8 (fun q6 hq => ?_)
  replace vc := vc.2 q6 _ hq rfl
  refine hw_dup X rfl dd_La_law_11 ?_
  obtain ⟨rm9, po9, hM9, hf9, hc9, vc⟩ := vc
  refine hw_callIv X (As := []) (ye_La_12 X) hM9 rfl hf9 hc9 (Nat.le_of_ble_eq_true rfl) rfl dd_La_law_12 (fun w8 hp => ?_)
  replace vc := vc w8 hp
  refine hw_astore_n X (Or.inr ⟨_, rfl⟩) dd_La_law_15 (by decide) rfl ?_
  refine hw_iconst X (v := 0) dd_La_law_16 (by decide) ?_
  refine hw_istore_n X dd_La_law_17 (by decide) rfl ?_
  exact hK _ _ _ _ _ _ vc
def vc_La_law_18 (l : Launch) (g : hw_G) (R : Room) (K : Nat → Nat → Nat → List (Option Value) → List Value → hw_H → Prop) (PR : Nat → Nat → Int32 → hw_H → Prop) (k n : Nat) (b L : Nat) (xs : Nat → Int32) (a1 : Nat) (a2 : Nat) (x3 : Int32) (w : hw_H) : Prop := ((((Int32.ofNat L) - (3 : Int32)) < x3) → (PR k n (1 : Int32) w)) ∧ ((¬ ((Int32.ofNat L) - (3 : Int32)) < x3) → (vp_in x3 L ∧ ∀ x_1 : Int32, x_1 = xs (x3).toNatClampNeg → (((x_1 &&& (15 : Int32)) = (0 : Int32) → (vp_in (x3 + (1 : Int32)) L ∧ ∀ x_2 : Int32, x_2 = xs ((x3 + (1 : Int32))).toNatClampNeg → (vp_in (x3 + (2 : Int32)) L ∧ ∀ x_3 : Int32, x_3 = xs ((x3 + (2 : Int32))).toNatClampNeg → (hw_o w a1 "ProofCourt" ∧ hw_ci l g R k n ym_Co_type (mw_Co_type) 3 [.ref a1, .int x_2, .int x_3] w (fun (k5 n6 : Nat) (x_7 : Int32) (w4 : hw_H) => vp_in (x3 + (1 : Int32)) L ∧ ∀ x_8 : Int32, x_8 = xs ((x3 + (1 : Int32))).toNatClampNeg → (vp_in (x3 + (2 : Int32)) L ∧ ∀ x_9 : Int32, x_9 = xs ((x3 + (2 : Int32))).toNatClampNeg → (hw_o w4 a2 "ProofCourtModel" ∧ hw_ci l g R k5 n6 ym_Mo_type (mw_Mo_type) 6 [.ref a2, .int x_8, .int x_9] w4 (fun (k11 n12 : Nat) (x_13 : Int32) (w10 : hw_H) => K k11 n12 322 [some (.ref b), some (.ref a1), some (.ref a2), some (.int x3)] [] w10)))))))) ∧ ((x_1 &&& (15 : Int32)) = (1 : Int32) → (hw_o w a1 "ProofCourt" ∧ hw_ci l g R k n ym_Co_read (mw_Co_read) 3 [.ref a1] w (fun (k15 n16 : Nat) (x_17 : Int32) (w14 : hw_H) => hw_o w14 a2 "ProofCourtModel" ∧ hw_ci l g R k15 n16 ym_Mo_read (mw_Mo_read) 4 [.ref a2] w14 (fun (k19 n20 : Nat) (x_21 : Int32) (w18 : hw_H) => K k19 n20 322 [some (.ref b), some (.ref a1), some (.ref a2), some (.int x3)] [] w18)))) ∧ ((x_1 &&& (15 : Int32)) = (2 : Int32) → (hw_o w a1 "ProofCourt" ∧ hw_ci l g R k n ym_Co_variables (mw_Co_variables) 1 [.ref a1] w (fun (k23 n24 : Nat) (x_25 : Int32) (w22 : hw_H) => hw_o w22 a2 "ProofCourtModel" ∧ hw_ci l g R k23 n24 ym_Mo_variables (mw_Mo_variables) 1 [.ref a2] w22 (fun (k27 n28 : Nat) (x_29 : Int32) (w26 : hw_H) => K k27 n28 322 [some (.ref b), some (.ref a1), some (.ref a2), some (.int x3)] [] w26)))) ∧ ((x_1 &&& (15 : Int32)) = (3 : Int32) → (hw_o w a1 "ProofCourt" ∧ hw_ci l g R k n ym_Co_live (mw_Co_live) 1 [.ref a1] w (fun (k31 n32 : Nat) (x_33 : Int32) (w30 : hw_H) => hw_o w30 a2 "ProofCourtModel" ∧ hw_ci l g R k31 n32 ym_Mo_live (mw_Mo_live) 1 [.ref a2] w30 (fun (k35 n36 : Nat) (x_37 : Int32) (w34 : hw_H) => K k35 n36 322 [some (.ref b), some (.ref a1), some (.ref a2), some (.int x3)] [] w34)))) ∧ ((x_1 &&& (15 : Int32)) = (4 : Int32) → (vp_in (x3 + (1 : Int32)) L ∧ ∀ x_38 : Int32, x_38 = xs ((x3 + (1 : Int32))).toNatClampNeg → (vp_in (x3 + (2 : Int32)) L ∧ ∀ x_39 : Int32, x_39 = xs ((x3 + (2 : Int32))).toNatClampNeg → (hw_o w a1 "ProofCourt" ∧ hw_ci l g R k n ym_Co_literal (mw_Co_literal) 4 [.ref a1, .int x_38, .int x_39] w (fun (k41 n42 : Nat) (x_43 : Int32) (w40 : hw_H) => vp_in (x3 + (1 : Int32)) L ∧ ∀ x_44 : Int32, x_44 = xs ((x3 + (1 : Int32))).toNatClampNeg → (vp_in (x3 + (2 : Int32)) L ∧ ∀ x_45 : Int32, x_45 = xs ((x3 + (2 : Int32))).toNatClampNeg → (hw_o w40 a2 "ProofCourtModel" ∧ hw_ci l g R k41 n42 ym_Mo_literal (mw_Mo_literal) 4 [.ref a2, .int x_44, .int x_45] w40 (fun (k47 n48 : Nat) (x_49 : Int32) (w46 : hw_H) => K k47 n48 322 [some (.ref b), some (.ref a1), some (.ref a2), some (.int x3)] [] w46)))))))) ∧ ((x_1 &&& (15 : Int32)) = (5 : Int32) → (hw_o w a1 "ProofCourt" ∧ hw_ci l g R k n ym_Co_solve (mw_Co_solve) 1 [.ref a1] w (fun (k51 n52 : Nat) (x_53 : Int32) (w50 : hw_H) => hw_o w50 a2 "ProofCourtModel" ∧ hw_ci l g R k51 n52 ym_Mo_solve (mw_Mo_solve) 1 [.ref a2] w50 (fun (k55 n56 : Nat) (x_57 : Int32) (w54 : hw_H) => K k55 n56 322 [some (.ref b), some (.ref a1), some (.ref a2), some (.int x3)] [] w54)))) ∧ ((x_1 &&& (15 : Int32)) = (6 : Int32) → (vp_in (x3 + (1 : Int32)) L ∧ ∀ x_58 : Int32, x_58 = xs ((x3 + (1 : Int32))).toNatClampNeg → (hw_o w a1 "ProofCourt" ∧ hw_ci l g R k n ym_Co_value (mw_Co_value) 2 [.ref a1, .int x_58] w (fun (k60 n61 : Nat) (x_62 : Int32) (w59 : hw_H) => vp_in (x3 + (1 : Int32)) L ∧ ∀ x_63 : Int32, x_63 = xs ((x3 + (1 : Int32))).toNatClampNeg → (hw_o w59 a2 "ProofCourtModel" ∧ hw_ci l g R k60 n61 ym_Mo_value (mw_Mo_value) 3 [.ref a2, .int x_63] w59 (fun (k65 n66 : Nat) (x_67 : Int32) (w64 : hw_H) => K k65 n66 322 [some (.ref b), some (.ref a1), some (.ref a2), some (.int x3)] [] w64)))))) ∧ ((x_1 &&& (15 : Int32)) = (7 : Int32) → (hw_o w a1 "ProofCourt" ∧ hw_ci l g R k n ym_Co_count (mw_Co_count) 1 [.ref a1] w (fun (k69 n70 : Nat) (x_71 : Int32) (w68 : hw_H) => hw_o w68 a2 "ProofCourtModel" ∧ hw_ci l g R k69 n70 ym_Mo_count (mw_Mo_count) 3 [.ref a2] w68 (fun (k73 n74 : Nat) (x_75 : Int32) (w72 : hw_H) => K k73 n74 322 [some (.ref b), some (.ref a1), some (.ref a2), some (.int x3)] [] w72)))) ∧ ((x_1 &&& (15 : Int32)) = (8 : Int32) → (vp_in (x3 + (1 : Int32)) L ∧ ∀ x_76 : Int32, x_76 = xs ((x3 + (1 : Int32))).toNatClampNeg → (vp_in (x3 + (2 : Int32)) L ∧ ∀ x_77 : Int32, x_77 = xs ((x3 + (2 : Int32))).toNatClampNeg → (hw_o w a1 "ProofCourt" ∧ hw_ci l g R k n ym_Co_forced (mw_Co_forced) 4 [.ref a1, .int x_76, .int x_77] w (fun (k79 n80 : Nat) (x_81 : Int32) (w78 : hw_H) => vp_in (x3 + (1 : Int32)) L ∧ ∀ x_82 : Int32, x_82 = xs ((x3 + (1 : Int32))).toNatClampNeg → (vp_in (x3 + (2 : Int32)) L ∧ ∀ x_83 : Int32, x_83 = xs ((x3 + (2 : Int32))).toNatClampNeg → (hw_o w78 a2 "ProofCourtModel" ∧ hw_ci l g R k79 n80 ym_Mo_forced (mw_Mo_forced) 6 [.ref a2, .int x_82, .int x_83] w78 (fun (k85 n86 : Nat) (x_87 : Int32) (w84 : hw_H) => K k85 n86 322 [some (.ref b), some (.ref a1), some (.ref a2), some (.int x3)] [] w84)))))))) ∧ ((x_1 &&& (15 : Int32)) = (9 : Int32) → (hw_o w a1 "ProofCourt" ∧ hw_ci l g R k n ym_Co_line (mw_Co_line) 3 [.ref a1] w (fun (k89 n90 : Nat) (x_91 : Int32) (w88 : hw_H) => hw_o w88 a2 "ProofCourtModel" ∧ hw_ci l g R k89 n90 ym_Mo_line (mw_Mo_line) 3 [.ref a2] w88 (fun (k93 n94 : Nat) (x_95 : Int32) (w92 : hw_H) => K k93 n94 322 [some (.ref b), some (.ref a1), some (.ref a2), some (.int x3)] [] w92)))) ∧ ((x_1 &&& (15 : Int32)) = (10 : Int32) → (hw_o w a1 "ProofCourt" ∧ hw_ci l g R k n ym_Co_refuted (mw_Co_refuted) 1 [.ref a1] w (fun (k97 n98 : Nat) (x_99 : Int32) (w96 : hw_H) => hw_o w96 a2 "ProofCourtModel" ∧ hw_ci l g R k97 n98 ym_Mo_refuted (mw_Mo_refuted) 1 [.ref a2] w96 (fun (k101 n102 : Nat) (x_103 : Int32) (w100 : hw_H) => K k101 n102 322 [some (.ref b), some (.ref a1), some (.ref a2), some (.int x3)] [] w100)))) ∧ ((x_1 &&& (15 : Int32)) = (11 : Int32) → (hw_o w a1 "ProofCourt" ∧ hw_ci l g R k n ym_Co_proves (mw_Co_proves) 1 [.ref a1] w (fun (k105 n106 : Nat) (x_107 : Int32) (w104 : hw_H) => hw_o w104 a2 "ProofCourtModel" ∧ hw_ci l g R k105 n106 ym_Mo_proves (mw_Mo_proves) 1 [.ref a2] w104 (fun (k109 n110 : Nat) (x_111 : Int32) (w108 : hw_H) => ((x_107 = x_111) → (K k109 n110 322 [some (.ref b), some (.ref a1), some (.ref a2), some (.int x3)] [] w108)) ∧ ((¬ x_107 = x_111) → (PR k109 n110 (0 : Int32) w108)))))) ∧ (((x_1 &&& (15 : Int32))).toInt < 0 ∨ 11 < ((x_1 &&& (15 : Int32))).toInt → (K k n 322 [some (.ref b), some (.ref a1), some (.ref a2), some (.int x3)] [] w)))))
set_option maxHeartbeats 4000000 in
set_option maxRecDepth 100000 in
theorem sg_La_law_18 (X : hw_X p m c cb_La_law 4 s args (mw_La_law) "ProofCourtLaw" g A) {K : Nat → Nat → Nat → List (Option Value) → List Value → hw_H → Prop} {PR : Nat → Nat → Int32 → hw_H → Prop} (hK : ∀ (k n pc : Nat) (lv : List (Option Value)) (st : List Value) (w : hw_H), K k n pc lv st w → hw_J p l e R s m args below meth c Q 4 g A k n pc lv st w) (rt : ∀ {k n pc : Nat} {lv : List (Option Value)} {x : Int32} {w : hw_H}, decode cb_La_law pc = .ok (.ireturn, 1) → PR k n x w → hw_J p l e R s m args below meth c Q 4 g A k n pc lv [.int x] w) {b L : Nat} {xs : Nat → Int32} {a1 : Nat} {a2 : Nat} {x3 : Int32} (hX : hw_scr s A b L xs) (vc : vc_La_law_18 l g R K PR k n b L xs a1 a2 x3 w) : hw_J p l e R s m args below meth c Q 4 g A k n 18 [some (.ref b), some (.ref a1), some (.ref a2), some (.int x3)] [] w := by
  unfold vc_La_law_18 at vc
  refine hw_iload_n X dd_La_law_18 rfl ?_
  refine hw_aload_n X (Or.inr ⟨_, rfl⟩) dd_La_law_19 rfl ?_
  refine hw_xlen X hX dd_La_law_20 ?_
  refine hw_iconst X (v := 3) dd_La_law_21 (by decide) ?_
  refine hw_isub X dd_La_law_22 ?_
  refine hw_icmp_gt X (tgt := 328) dd_La_law_23 rfl (fun hc => ?_) (fun hc => ?_)
  · replace vc := vc.1 hc
    refine hw_iconst X (v := 1) dd_La_law_328 (by decide) ?_
    exact rt dd_La_law_329 vc
  · replace vc := vc.2 hc
    refine hw_aload_n X (Or.inr ⟨_, rfl⟩) dd_La_law_26 rfl ?_
    refine hw_iload_n X dd_La_law_27 rfl ?_
    refine hw_xld X hX vc.1 dd_La_law_28 ?_
    refine hw_top (fun x_1 ex_1 => ?_)
    replace vc := vc.2 x_1 ex_1
    refine hw_bipush X (v := 15) dd_La_law_29 (by decide) ?_
    refine hw_iand X dd_La_law_31 ?_
    refine hw_sw12 X dd_La_law_32 (t0 := 96) (t1 := 129) (t2 := 142) (t3 := 155) (t4 := 168) (t5 := 201) (t6 := 214) (t7 := 237) (t8 := 250) (t9 := 283) (t10 := 296) (t11 := 309) (td := 322) rfl rfl rfl rfl rfl rfl rfl rfl rfl rfl rfl rfl rfl rfl rfl rfl rfl rfl rfl rfl rfl rfl rfl rfl rfl (fun hc => ?_) (fun hc => ?_) (fun hc => ?_) (fun hc => ?_) (fun hc => ?_) (fun hc => ?_) (fun hc => ?_) (fun hc => ?_) (fun hc => ?_) (fun hc => ?_) (fun hc => ?_) (fun hc => ?_) (fun hc => ?_)
    · replace vc := vc.1 hc
      refine hw_aload_n X (Or.inr ⟨_, rfl⟩) dd_La_law_96 rfl ?_
      refine hw_aload_n X (Or.inr ⟨_, rfl⟩) dd_La_law_97 rfl ?_
      refine hw_iload_n X dd_La_law_98 rfl ?_
      refine hw_iconst X (v := 1) dd_La_law_99 (by decide) ?_
      refine hw_iadd X dd_La_law_100 ?_
      refine hw_xld X hX vc.1 dd_La_law_101 ?_
      refine hw_top (fun x_2 ex_2 => ?_)
      replace vc := vc.2 x_2 ex_2
      refine hw_aload_n X (Or.inr ⟨_, rfl⟩) dd_La_law_102 rfl ?_
      refine hw_iload_n X dd_La_law_103 rfl ?_
      refine hw_iconst X (v := 2) dd_La_law_104 (by decide) ?_
      refine hw_iadd X dd_La_law_105 ?_
      refine hw_xld X hX vc.1 dd_La_law_106 ?_
      refine hw_top (fun x_3 ex_3 => ?_)
      replace vc := vc.2 x_3 ex_3
      obtain ⟨hob, rm9, po9, hM9, hf9, hc9, vc⟩ := vc
      refine hw_callVi X (As := [.int x_2, .int x_3]) (ye_La_13 X) hM9 rfl hf9 hc9 hob (Nat.le_of_ble_eq_true rfl) rfl dd_La_law_107 (fun x_7 w4 hp => ?_)
      replace vc := vc x_7 w4 hp
      refine hw_pop X rfl dd_La_law_110 ?_
      refine hw_aload_n X (Or.inr ⟨_, rfl⟩) dd_La_law_111 rfl ?_
      refine hw_aload_n X (Or.inr ⟨_, rfl⟩) dd_La_law_112 rfl ?_
      refine hw_iload_n X dd_La_law_113 rfl ?_
      refine hw_iconst X (v := 1) dd_La_law_114 (by decide) ?_
      refine hw_iadd X dd_La_law_115 ?_
      refine hw_xld X hX vc.1 dd_La_law_116 ?_
      refine hw_top (fun x_8 ex_8 => ?_)
      replace vc := vc.2 x_8 ex_8
      refine hw_aload_n X (Or.inr ⟨_, rfl⟩) dd_La_law_117 rfl ?_
      refine hw_iload_n X dd_La_law_118 rfl ?_
      refine hw_iconst X (v := 2) dd_La_law_119 (by decide) ?_
      refine hw_iadd X dd_La_law_120 ?_
      refine hw_xld X hX vc.1 dd_La_law_121 ?_
      refine hw_top (fun x_9 ex_9 => ?_)
      replace vc := vc.2 x_9 ex_9
      obtain ⟨hob, rm9, po9, hM9, hf9, hc9, vc⟩ := vc
      refine hw_callVi X (As := [.int x_8, .int x_9]) (ye_La_17 X) hM9 rfl hf9 hc9 hob (Nat.le_of_ble_eq_true rfl) rfl dd_La_law_122 (fun x_13 w10 hp => ?_)
      replace vc := vc x_13 w10 hp
      refine hw_pop X rfl dd_La_law_125 ?_
      refine hw_goto X (tgt := 322) dd_La_law_126 rfl ?_
      exact hK _ _ _ _ _ _ vc
    · replace vc := vc.2.1 hc
      refine hw_aload_n X (Or.inr ⟨_, rfl⟩) dd_La_law_129 rfl ?_
      obtain ⟨hob, rm9, po9, hM9, hf9, hc9, vc⟩ := vc
      refine hw_callVi X (As := []) (ye_La_18 X) hM9 rfl hf9 hc9 hob (Nat.le_of_ble_eq_true rfl) rfl dd_La_law_130 (fun x_17 w14 hp => ?_)
      replace vc := vc x_17 w14 hp
      refine hw_pop X rfl dd_La_law_133 ?_
      refine hw_aload_n X (Or.inr ⟨_, rfl⟩) dd_La_law_134 rfl ?_
      obtain ⟨hob, rm9, po9, hM9, hf9, hc9, vc⟩ := vc
      refine hw_callVi X (As := []) (ye_La_22 X) hM9 rfl hf9 hc9 hob (Nat.le_of_ble_eq_true rfl) rfl dd_La_law_135 (fun x_21 w18 hp => ?_)
      replace vc := vc x_21 w18 hp
      refine hw_pop X rfl dd_La_law_138 ?_
      refine hw_goto X (tgt := 322) dd_La_law_139 rfl ?_
      exact hK _ _ _ _ _ _ vc
    · replace vc := vc.2.2.1 hc
      refine hw_aload_n X (Or.inr ⟨_, rfl⟩) dd_La_law_142 rfl ?_
      obtain ⟨hob, rm9, po9, hM9, hf9, hc9, vc⟩ := vc
      refine hw_callVi X (As := []) (ye_La_23 X) hM9 rfl hf9 hc9 hob (Nat.le_of_ble_eq_true rfl) rfl dd_La_law_143 (fun x_25 w22 hp => ?_)
      replace vc := vc x_25 w22 hp
      refine hw_pop X rfl dd_La_law_146 ?_
      refine hw_aload_n X (Or.inr ⟨_, rfl⟩) dd_La_law_147 rfl ?_
      obtain ⟨hob, rm9, po9, hM9, hf9, hc9, vc⟩ := vc
      refine hw_callVi X (As := []) (ye_La_26 X) hM9 rfl hf9 hc9 hob (Nat.le_of_ble_eq_true rfl) rfl dd_La_law_148 (fun x_29 w26 hp => ?_)
      replace vc := vc x_29 w26 hp
      refine hw_pop X rfl dd_La_law_151 ?_
      refine hw_goto X (tgt := 322) dd_La_law_152 rfl ?_
      exact hK _ _ _ _ _ _ vc
    · replace vc := vc.2.2.2.1 hc
      refine hw_aload_n X (Or.inr ⟨_, rfl⟩) dd_La_law_155 rfl ?_
      obtain ⟨hob, rm9, po9, hM9, hf9, hc9, vc⟩ := vc
      refine hw_callVi X (As := []) (ye_La_27 X) hM9 rfl hf9 hc9 hob (Nat.le_of_ble_eq_true rfl) rfl dd_La_law_156 (fun x_33 w30 hp => ?_)
      replace vc := vc x_33 w30 hp
      refine hw_pop X rfl dd_La_law_159 ?_
      refine hw_aload_n X (Or.inr ⟨_, rfl⟩) dd_La_law_160 rfl ?_
      obtain ⟨hob, rm9, po9, hM9, hf9, hc9, vc⟩ := vc
      refine hw_callVi X (As := []) (ye_La_30 X) hM9 rfl hf9 hc9 hob (Nat.le_of_ble_eq_true rfl) rfl dd_La_law_161 (fun x_37 w34 hp => ?_)
      replace vc := vc x_37 w34 hp
      refine hw_pop X rfl dd_La_law_164 ?_
      refine hw_goto X (tgt := 322) dd_La_law_165 rfl ?_
      exact hK _ _ _ _ _ _ vc
    · replace vc := vc.2.2.2.2.1 hc
      refine hw_aload_n X (Or.inr ⟨_, rfl⟩) dd_La_law_168 rfl ?_
      refine hw_aload_n X (Or.inr ⟨_, rfl⟩) dd_La_law_169 rfl ?_
      refine hw_iload_n X dd_La_law_170 rfl ?_
      refine hw_iconst X (v := 1) dd_La_law_171 (by decide) ?_
      refine hw_iadd X dd_La_law_172 ?_
      refine hw_xld X hX vc.1 dd_La_law_173 ?_
      refine hw_top (fun x_38 ex_38 => ?_)
      replace vc := vc.2 x_38 ex_38
      refine hw_aload_n X (Or.inr ⟨_, rfl⟩) dd_La_law_174 rfl ?_
      refine hw_iload_n X dd_La_law_175 rfl ?_
      refine hw_iconst X (v := 2) dd_La_law_176 (by decide) ?_
      refine hw_iadd X dd_La_law_177 ?_
      refine hw_xld X hX vc.1 dd_La_law_178 ?_
      refine hw_top (fun x_39 ex_39 => ?_)
      replace vc := vc.2 x_39 ex_39
      obtain ⟨hob, rm9, po9, hM9, hf9, hc9, vc⟩ := vc
      refine hw_callVi X (As := [.int x_38, .int x_39]) (ye_La_31 X) hM9 rfl hf9 hc9 hob (Nat.le_of_ble_eq_true rfl) rfl dd_La_law_179 (fun x_43 w40 hp => ?_)
      replace vc := vc x_43 w40 hp
      refine hw_pop X rfl dd_La_law_182 ?_
      refine hw_aload_n X (Or.inr ⟨_, rfl⟩) dd_La_law_183 rfl ?_
      refine hw_aload_n X (Or.inr ⟨_, rfl⟩) dd_La_law_184 rfl ?_
      refine hw_iload_n X dd_La_law_185 rfl ?_
      refine hw_iconst X (v := 1) dd_La_law_186 (by decide) ?_
      refine hw_iadd X dd_La_law_187 ?_
      refine hw_xld X hX vc.1 dd_La_law_188 ?_
      refine hw_top (fun x_44 ex_44 => ?_)
      replace vc := vc.2 x_44 ex_44
      refine hw_aload_n X (Or.inr ⟨_, rfl⟩) dd_La_law_189 rfl ?_
      refine hw_iload_n X dd_La_law_190 rfl ?_
      refine hw_iconst X (v := 2) dd_La_law_191 (by decide) ?_
      refine hw_iadd X dd_La_law_192 ?_
      refine hw_xld X hX vc.1 dd_La_law_193 ?_
      refine hw_top (fun x_45 ex_45 => ?_)
      replace vc := vc.2 x_45 ex_45
      obtain ⟨hob, rm9, po9, hM9, hf9, hc9, vc⟩ := vc
      refine hw_callVi X (As := [.int x_44, .int x_45]) (ye_La_35 X) hM9 rfl hf9 hc9 hob (Nat.le_of_ble_eq_true rfl) rfl dd_La_law_194 (fun x_49 w46 hp => ?_)
      replace vc := vc x_49 w46 hp
      refine hw_pop X rfl dd_La_law_197 ?_
      refine hw_goto X (tgt := 322) dd_La_law_198 rfl ?_
      exact hK _ _ _ _ _ _ vc
    · replace vc := vc.2.2.2.2.2.1 hc
      refine hw_aload_n X (Or.inr ⟨_, rfl⟩) dd_La_law_201 rfl ?_
      obtain ⟨hob, rm9, po9, hM9, hf9, hc9, vc⟩ := vc
      refine hw_callVi X (As := []) (ye_La_36 X) hM9 rfl hf9 hc9 hob (Nat.le_of_ble_eq_true rfl) rfl dd_La_law_202 (fun x_53 w50 hp => ?_)
      replace vc := vc x_53 w50 hp
      refine hw_pop X rfl dd_La_law_205 ?_
      refine hw_aload_n X (Or.inr ⟨_, rfl⟩) dd_La_law_206 rfl ?_
      obtain ⟨hob, rm9, po9, hM9, hf9, hc9, vc⟩ := vc
      refine hw_callVi X (As := []) (ye_La_39 X) hM9 rfl hf9 hc9 hob (Nat.le_of_ble_eq_true rfl) rfl dd_La_law_207 (fun x_57 w54 hp => ?_)
      replace vc := vc x_57 w54 hp
      refine hw_pop X rfl dd_La_law_210 ?_
      refine hw_goto X (tgt := 322) dd_La_law_211 rfl ?_
      exact hK _ _ _ _ _ _ vc
    · replace vc := vc.2.2.2.2.2.2.1 hc
      refine hw_aload_n X (Or.inr ⟨_, rfl⟩) dd_La_law_214 rfl ?_
      refine hw_aload_n X (Or.inr ⟨_, rfl⟩) dd_La_law_215 rfl ?_
      refine hw_iload_n X dd_La_law_216 rfl ?_
      refine hw_iconst X (v := 1) dd_La_law_217 (by decide) ?_
      refine hw_iadd X dd_La_law_218 ?_
      refine hw_xld X hX vc.1 dd_La_law_219 ?_
      refine hw_top (fun x_58 ex_58 => ?_)
      replace vc := vc.2 x_58 ex_58
      obtain ⟨hob, rm9, po9, hM9, hf9, hc9, vc⟩ := vc
      refine hw_callVi X (As := [.int x_58]) (ye_La_40 X) hM9 rfl hf9 hc9 hob (Nat.le_of_ble_eq_true rfl) rfl dd_La_law_220 (fun x_62 w59 hp => ?_)
      replace vc := vc x_62 w59 hp
      refine hw_pop X rfl dd_La_law_223 ?_
      refine hw_aload_n X (Or.inr ⟨_, rfl⟩) dd_La_law_224 rfl ?_
      refine hw_aload_n X (Or.inr ⟨_, rfl⟩) dd_La_law_225 rfl ?_
      refine hw_iload_n X dd_La_law_226 rfl ?_
      refine hw_iconst X (v := 1) dd_La_law_227 (by decide) ?_
      refine hw_iadd X dd_La_law_228 ?_
      refine hw_xld X hX vc.1 dd_La_law_229 ?_
      refine hw_top (fun x_63 ex_63 => ?_)
      replace vc := vc.2 x_63 ex_63
      obtain ⟨hob, rm9, po9, hM9, hf9, hc9, vc⟩ := vc
      refine hw_callVi X (As := [.int x_63]) (ye_La_44 X) hM9 rfl hf9 hc9 hob (Nat.le_of_ble_eq_true rfl) rfl dd_La_law_230 (fun x_67 w64 hp => ?_)
      replace vc := vc x_67 w64 hp
      refine hw_pop X rfl dd_La_law_233 ?_
      refine hw_goto X (tgt := 322) dd_La_law_234 rfl ?_
      exact hK _ _ _ _ _ _ vc
    · replace vc := vc.2.2.2.2.2.2.2.1 hc
      refine hw_aload_n X (Or.inr ⟨_, rfl⟩) dd_La_law_237 rfl ?_
      obtain ⟨hob, rm9, po9, hM9, hf9, hc9, vc⟩ := vc
      refine hw_callVi X (As := []) (ye_La_45 X) hM9 rfl hf9 hc9 hob (Nat.le_of_ble_eq_true rfl) rfl dd_La_law_238 (fun x_71 w68 hp => ?_)
      replace vc := vc x_71 w68 hp
      refine hw_pop X rfl dd_La_law_241 ?_
      refine hw_aload_n X (Or.inr ⟨_, rfl⟩) dd_La_law_242 rfl ?_
      obtain ⟨hob, rm9, po9, hM9, hf9, hc9, vc⟩ := vc
      refine hw_callVi X (As := []) (ye_La_48 X) hM9 rfl hf9 hc9 hob (Nat.le_of_ble_eq_true rfl) rfl dd_La_law_243 (fun x_75 w72 hp => ?_)
      replace vc := vc x_75 w72 hp
      refine hw_pop X rfl dd_La_law_246 ?_
      refine hw_goto X (tgt := 322) dd_La_law_247 rfl ?_
      exact hK _ _ _ _ _ _ vc
    · replace vc := vc.2.2.2.2.2.2.2.2.1 hc
      refine hw_aload_n X (Or.inr ⟨_, rfl⟩) dd_La_law_250 rfl ?_
      refine hw_aload_n X (Or.inr ⟨_, rfl⟩) dd_La_law_251 rfl ?_
      refine hw_iload_n X dd_La_law_252 rfl ?_
      refine hw_iconst X (v := 1) dd_La_law_253 (by decide) ?_
      refine hw_iadd X dd_La_law_254 ?_
      refine hw_xld X hX vc.1 dd_La_law_255 ?_
      refine hw_top (fun x_76 ex_76 => ?_)
      replace vc := vc.2 x_76 ex_76
      refine hw_aload_n X (Or.inr ⟨_, rfl⟩) dd_La_law_256 rfl ?_
      refine hw_iload_n X dd_La_law_257 rfl ?_
      refine hw_iconst X (v := 2) dd_La_law_258 (by decide) ?_
      refine hw_iadd X dd_La_law_259 ?_
      refine hw_xld X hX vc.1 dd_La_law_260 ?_
      refine hw_top (fun x_77 ex_77 => ?_)
      replace vc := vc.2 x_77 ex_77
      obtain ⟨hob, rm9, po9, hM9, hf9, hc9, vc⟩ := vc
      refine hw_callVi X (As := [.int x_76, .int x_77]) (ye_La_49 X) hM9 rfl hf9 hc9 hob (Nat.le_of_ble_eq_true rfl) rfl dd_La_law_261 (fun x_81 w78 hp => ?_)
      replace vc := vc x_81 w78 hp
      refine hw_pop X rfl dd_La_law_264 ?_
      refine hw_aload_n X (Or.inr ⟨_, rfl⟩) dd_La_law_265 rfl ?_
      refine hw_aload_n X (Or.inr ⟨_, rfl⟩) dd_La_law_266 rfl ?_
      refine hw_iload_n X dd_La_law_267 rfl ?_
      refine hw_iconst X (v := 1) dd_La_law_268 (by decide) ?_
      refine hw_iadd X dd_La_law_269 ?_
      refine hw_xld X hX vc.1 dd_La_law_270 ?_
      refine hw_top (fun x_82 ex_82 => ?_)
      replace vc := vc.2 x_82 ex_82
      refine hw_aload_n X (Or.inr ⟨_, rfl⟩) dd_La_law_271 rfl ?_
      refine hw_iload_n X dd_La_law_272 rfl ?_
      refine hw_iconst X (v := 2) dd_La_law_273 (by decide) ?_
      refine hw_iadd X dd_La_law_274 ?_
      refine hw_xld X hX vc.1 dd_La_law_275 ?_
      refine hw_top (fun x_83 ex_83 => ?_)
      replace vc := vc.2 x_83 ex_83
      obtain ⟨hob, rm9, po9, hM9, hf9, hc9, vc⟩ := vc
      refine hw_callVi X (As := [.int x_82, .int x_83]) (ye_La_52 X) hM9 rfl hf9 hc9 hob (Nat.le_of_ble_eq_true rfl) rfl dd_La_law_276 (fun x_87 w84 hp => ?_)
      replace vc := vc x_87 w84 hp
      refine hw_pop X rfl dd_La_law_279 ?_
      refine hw_goto X (tgt := 322) dd_La_law_280 rfl ?_
      exact hK _ _ _ _ _ _ vc
    · replace vc := vc.2.2.2.2.2.2.2.2.2.1 hc
      refine hw_aload_n X (Or.inr ⟨_, rfl⟩) dd_La_law_283 rfl ?_
      obtain ⟨hob, rm9, po9, hM9, hf9, hc9, vc⟩ := vc
      refine hw_callVi X (As := []) (ye_La_53 X) hM9 rfl hf9 hc9 hob (Nat.le_of_ble_eq_true rfl) rfl dd_La_law_284 (fun x_91 w88 hp => ?_)
      replace vc := vc x_91 w88 hp
      refine hw_pop X rfl dd_La_law_287 ?_
      refine hw_aload_n X (Or.inr ⟨_, rfl⟩) dd_La_law_288 rfl ?_
      obtain ⟨hob, rm9, po9, hM9, hf9, hc9, vc⟩ := vc
      refine hw_callVi X (As := []) (ye_La_56 X) hM9 rfl hf9 hc9 hob (Nat.le_of_ble_eq_true rfl) rfl dd_La_law_289 (fun x_95 w92 hp => ?_)
      replace vc := vc x_95 w92 hp
      refine hw_pop X rfl dd_La_law_292 ?_
      refine hw_goto X (tgt := 322) dd_La_law_293 rfl ?_
      exact hK _ _ _ _ _ _ vc
    · replace vc := vc.2.2.2.2.2.2.2.2.2.2.1 hc
      refine hw_aload_n X (Or.inr ⟨_, rfl⟩) dd_La_law_296 rfl ?_
      obtain ⟨hob, rm9, po9, hM9, hf9, hc9, vc⟩ := vc
      refine hw_callVi X (As := []) (ye_La_57 X) hM9 rfl hf9 hc9 hob (Nat.le_of_ble_eq_true rfl) rfl dd_La_law_297 (fun x_99 w96 hp => ?_)
      replace vc := vc x_99 w96 hp
      refine hw_pop X rfl dd_La_law_300 ?_
      refine hw_aload_n X (Or.inr ⟨_, rfl⟩) dd_La_law_301 rfl ?_
      obtain ⟨hob, rm9, po9, hM9, hf9, hc9, vc⟩ := vc
      refine hw_callVi X (As := []) (ye_La_61 X) hM9 rfl hf9 hc9 hob (Nat.le_of_ble_eq_true rfl) rfl dd_La_law_302 (fun x_103 w100 hp => ?_)
      replace vc := vc x_103 w100 hp
      refine hw_pop X rfl dd_La_law_305 ?_
      refine hw_goto X (tgt := 322) dd_La_law_306 rfl ?_
      exact hK _ _ _ _ _ _ vc
    · replace vc := vc.2.2.2.2.2.2.2.2.2.2.2.1 hc
      refine hw_aload_n X (Or.inr ⟨_, rfl⟩) dd_La_law_309 rfl ?_
      obtain ⟨hob, rm9, po9, hM9, hf9, hc9, vc⟩ := vc
      refine hw_callVi X (As := []) (ye_La_62 X) hM9 rfl hf9 hc9 hob (Nat.le_of_ble_eq_true rfl) rfl dd_La_law_310 (fun x_107 w104 hp => ?_)
      replace vc := vc x_107 w104 hp
      refine hw_aload_n X (Or.inr ⟨_, rfl⟩) dd_La_law_313 rfl ?_
      obtain ⟨hob, rm9, po9, hM9, hf9, hc9, vc⟩ := vc
      refine hw_callVi X (As := []) (ye_La_65 X) hM9 rfl hf9 hc9 hob (Nat.le_of_ble_eq_true rfl) rfl dd_La_law_314 (fun x_111 w108 hp => ?_)
      replace vc := vc x_111 w108 hp
      refine hw_icmp_eq X (tgt := 322) dd_La_law_317 rfl (fun hc => ?_) (fun hc => ?_)
      · replace vc := vc.1 hc
        exact hK _ _ _ _ _ _ vc
      · replace vc := vc.2 hc
        refine hw_iconst X (v := 0) dd_La_law_320 (by decide) ?_
        exact rt dd_La_law_321 vc
    · replace vc := vc.2.2.2.2.2.2.2.2.2.2.2.2 hc
      exact hK _ _ _ _ _ _ vc
def vc_La_law_322 (l : Launch) (g : hw_G) (R : Room) (K : Nat → Nat → Nat → List (Option Value) → List Value → hw_H → Prop) (PR : Nat → Nat → Int32 → hw_H → Prop) (k n : Nat) (b L : Nat) (xs : Nat → Int32) (a1 : Nat) (a2 : Nat) (x3 : Int32) (w : hw_H) : Prop := K k n 18 [some (.ref b), some (.ref a1), some (.ref a2), some (.int (x3 + 3))] [] w
set_option maxHeartbeats 4000000 in
set_option maxRecDepth 100000 in
theorem sg_La_law_322 (X : hw_X p m c cb_La_law 4 s args (mw_La_law) "ProofCourtLaw" g A) {K : Nat → Nat → Nat → List (Option Value) → List Value → hw_H → Prop} {PR : Nat → Nat → Int32 → hw_H → Prop} (hK : ∀ (k n pc : Nat) (lv : List (Option Value)) (st : List Value) (w : hw_H), K k n pc lv st w → hw_J p l e R s m args below meth c Q 4 g A k n pc lv st w) (rt : ∀ {k n pc : Nat} {lv : List (Option Value)} {x : Int32} {w : hw_H}, decode cb_La_law pc = .ok (.ireturn, 1) → PR k n x w → hw_J p l e R s m args below meth c Q 4 g A k n pc lv [.int x] w) {b L : Nat} {xs : Nat → Int32} {a1 : Nat} {a2 : Nat} {x3 : Int32} (hX : hw_scr s A b L xs) (vc : vc_La_law_322 l g R K PR k n b L xs a1 a2 x3 w) : hw_J p l e R s m args below meth c Q 4 g A k n 322 [some (.ref b), some (.ref a1), some (.ref a2), some (.int x3)] [] w := by
  unfold vc_La_law_322 at vc
  refine hw_iinc X (v := (x3 + 3)) dd_La_law_322 rfl rfl (by decide) rfl ?_
  refine hw_goto X (tgt := 18) dd_La_law_325 rfl ?_
  exact hK _ _ _ _ _ _ vc
end
