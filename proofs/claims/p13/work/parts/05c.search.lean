section
variable {p : Program} {l : Launch} {e : Env} {R : Room} {s : State} {m : MethodId} {args : Array Value} {below : List Frame} {meth : Method} {c : Code} {Q : State → Prop} {g : hw_G} {A : Nat → Prop} {k n : Nat} {w : hw_H}
def vc_Se_init_0 (l : Launch) (g : hw_G) (R : Room) (K : Nat → Nat → Nat → List (Option Value) → List Value → hw_H → Prop) (PR : Nat → Nat → hw_H → Prop) (k n : Nat) (a0 : Nat) (w : hw_H) : Prop := (k + 1 ≤ R.cells ∧ n + 2072 ≤ R.slots) ∧ ∀ (q1 : Nat) (w2 : hw_H), w q1 = none → w2 = va_up w q1 (some (.inl (g.2.1 0, 2072, .inl (fun _ => 0)))) → (∃ w3 : hw_H, hw_p w2 a0 2 0 (.ref q1) w3 ∧ (((k + 1) + 1 ≤ R.cells ∧ (n + 2072) + 10 ≤ R.slots) ∧ ∀ (q4 : Nat) (w5 : hw_H), w3 q4 = none → w5 = va_up w3 q4 (some (.inl (g.2.1 0, 10, .inl (fun _ => 0)))) → (∃ w6 : hw_H, hw_p w5 a0 2 8 (.ref q4) w6 ∧ ((((k + 1) + 1) + 1 ≤ R.cells ∧ ((n + 2072) + 10) + 10 ≤ R.slots) ∧ ∀ (q7 : Nat) (w8 : hw_H), w6 q7 = none → w8 = va_up w6 q7 (some (.inl (g.2.1 0, 10, .inl (fun _ => 0)))) → (∃ w9 : hw_H, hw_p w8 a0 2 9 (.ref q7) w9 ∧ (((((k + 1) + 1) + 1) + 1 ≤ R.cells ∧ (((n + 2072) + 10) + 10) + 11 ≤ R.slots) ∧ ∀ (q10 : Nat) (w11 : hw_H), w9 q10 = none → w11 = va_up w9 q10 (some (.inl (g.2.1 0, 11, .inl (fun _ => 0)))) → (∃ w12 : hw_H, hw_p w11 a0 2 11 (.ref q10) w12 ∧ ((((((k + 1) + 1) + 1) + 1) + 1 ≤ R.cells ∧ ((((n + 2072) + 10) + 10) + 11) + 11 ≤ R.slots) ∧ ∀ (q13 : Nat) (w14 : hw_H), w12 q13 = none → w14 = va_up w12 q13 (some (.inl (g.2.1 0, 11, .inl (fun _ => 0)))) → (∃ w15 : hw_H, hw_p w14 a0 2 13 (.ref q13) w15 ∧ (PR (((((k + 1) + 1) + 1) + 1) + 1) (((((n + 2072) + 10) + 10) + 11) + 11) w15))))))))))
set_option maxHeartbeats 4000000 in
set_option maxRecDepth 100000 in
theorem sg_Se_init_0 (X : hw_X p m c cb_Se_init 1 s args (mw_Se_init) "ProofCourt$Search" g A) (hin : meth.name = "<init>") (hRm : 1 ≤ R.frames ∧ 20 ≤ R.locals) {K : Nat → Nat → Nat → List (Option Value) → List Value → hw_H → Prop} {PR : Nat → Nat → hw_H → Prop} (hK : ∀ (k n pc : Nat) (lv : List (Option Value)) (st : List Value) (w : hw_H), K k n pc lv st w → hw_J p l e R s m args below meth c Q 1 g A k n pc lv st w) (rt : ∀ {k n pc : Nat} {lv : List (Option Value)} {w : hw_H}, decode cb_Se_init pc = .ok (.return_, 1) → PR k n w → hw_J p l e R s m args below meth c Q 1 g A k n pc lv [] w) {a0 : Nat} (vc : vc_Se_init_0 l g R K PR k n a0 w) : hw_J p l e R s m args below meth c Q 1 g A k n 0 [some (.ref a0)] [] w := by
  unfold vc_Se_init_0 at vc
  refine hw_aload_n X (Or.inr ⟨_, rfl⟩) dd_Se_init_0 rfl ?_
  refine hw_objInit X (oi_Se_3 X) (oj_Se X) (ok_Se X) (hw_oi1 hRm) (hw_oi2 hRm) (by decide) dd_Se_init_1 ?_
  refine hw_aload_n X (Or.inr ⟨_, rfl⟩) dd_Se_init_4 rfl ?_
  refine hw_sipush X (v := 2072) dd_Se_init_5 (by decide) ?_
  refine hw_newa X (t := 0) (N := 2072) (ty := .int) (ac_Se_int X) rfl rfl (fun _ z => by cases z) rfl (by decide) (by decide) (by decide) vc.1.1 vc.1.2 dd_Se_init_8 (fun q1 hq => ?_)
  replace vc := vc.2 q1 _ hq rfl
  obtain ⟨w3, h9, vc⟩ := vc
  refine hw_putF X (ff_Se_9 X) hin rfl rfl h9 dd_Se_init_10 ?_
  refine hw_aload_n X (Or.inr ⟨_, rfl⟩) dd_Se_init_13 rfl ?_
  refine hw_bipush X (v := 10) dd_Se_init_14 (by decide) ?_
  refine hw_newa X (t := 0) (N := 10) (ty := .int) (ac_Se_int X) rfl rfl (fun _ z => by cases z) rfl (by decide) (by decide) (by decide) vc.1.1 vc.1.2 dd_Se_init_16 (fun q4 hq => ?_)
  replace vc := vc.2 q4 _ hq rfl
  obtain ⟨w6, h9, vc⟩ := vc
  refine hw_putF X (ff_Se_15 X) hin rfl rfl h9 dd_Se_init_18 ?_
  refine hw_aload_n X (Or.inr ⟨_, rfl⟩) dd_Se_init_21 rfl ?_
  refine hw_bipush X (v := 10) dd_Se_init_22 (by decide) ?_
  refine hw_newa X (t := 0) (N := 10) (ty := .int) (ac_Se_int X) rfl rfl (fun _ z => by cases z) rfl (by decide) (by decide) (by decide) vc.1.1 vc.1.2 dd_Se_init_24 (fun q7 hq => ?_)
  replace vc := vc.2 q7 _ hq rfl
  obtain ⟨w9, h9, vc⟩ := vc
  refine hw_putF X (ff_Se_18 X) hin rfl rfl h9 dd_Se_init_26 ?_
  refine hw_aload_n X (Or.inr ⟨_, rfl⟩) dd_Se_init_29 rfl ?_
  refine hw_bipush X (v := 11) dd_Se_init_30 (by decide) ?_
  refine hw_newa X (t := 0) (N := 11) (ty := .int) (ac_Se_int X) rfl rfl (fun _ z => by cases z) rfl (by decide) (by decide) (by decide) vc.1.1 vc.1.2 dd_Se_init_32 (fun q10 hq => ?_)
  replace vc := vc.2 q10 _ hq rfl
  obtain ⟨w12, h9, vc⟩ := vc
  refine hw_putF X (ff_Se_21 X) hin rfl rfl h9 dd_Se_init_34 ?_
  refine hw_aload_n X (Or.inr ⟨_, rfl⟩) dd_Se_init_37 rfl ?_
  refine hw_bipush X (v := 11) dd_Se_init_38 (by decide) ?_
  refine hw_newa X (t := 0) (N := 11) (ty := .int) (ac_Se_int X) rfl rfl (fun _ z => by cases z) rfl (by decide) (by decide) (by decide) vc.1.1 vc.1.2 dd_Se_init_40 (fun q13 hq => ?_)
  replace vc := vc.2 q13 _ hq rfl
  obtain ⟨w15, h9, vc⟩ := vc
  refine hw_putF X (ff_Se_24 X) hin rfl rfl h9 dd_Se_init_42 ?_
  exact rt dd_Se_init_45 vc
end
section
variable {p : Program} {l : Launch} {e : Env} {R : Room} {s : State} {m : MethodId} {args : Array Value} {below : List Frame} {meth : Method} {c : Code} {Q : State → Prop} {g : hw_G} {A : Nat → Prop} {k n : Nat} {w : hw_H}
def vc_Se_begin_0 (l : Launch) (g : hw_G) (R : Room) (K : Nat → Nat → Nat → List (Option Value) → List Value → hw_H → Prop) (PR : Nat → Nat → hw_H → Prop) (k n : Nat) (a0 : Nat) (a1 : Nat) (w : hw_H) : Prop := ∃ x_1 : Int32, hw_g w a1 3 2 (.int x_1) ∧ (∃ w2 : hw_H, hw_p w a0 2 1 (.int x_1) w2 ∧ (K k n 10 [some (.ref a0), some (.ref a1), some (.int (0 : Int32))] [] w2))
set_option maxHeartbeats 4000000 in
set_option maxRecDepth 100000 in
theorem sg_Se_begin_0 (X : hw_X p m c cb_Se_begin 3 s args (mw_Se_begin) "ProofCourt$Search" g A) {K : Nat → Nat → Nat → List (Option Value) → List Value → hw_H → Prop} {PR : Nat → Nat → hw_H → Prop} (hK : ∀ (k n pc : Nat) (lv : List (Option Value)) (st : List Value) (w : hw_H), K k n pc lv st w → hw_J p l e R s m args below meth c Q 3 g A k n pc lv st w) (rt : ∀ {k n pc : Nat} {lv : List (Option Value)} {w : hw_H}, decode cb_Se_begin pc = .ok (.return_, 1) → PR k n w → hw_J p l e R s m args below meth c Q 3 g A k n pc lv [] w) {a0 : Nat} {a1 : Nat} (vc : vc_Se_begin_0 l g R K PR k n a0 a1 w) : hw_J p l e R s m args below meth c Q 3 g A k n 0 [some (.ref a0), some (.ref a1), none] [] w := by
  unfold vc_Se_begin_0 at vc
  refine hw_aload_n X (Or.inr ⟨_, rfl⟩) dd_Se_begin_0 rfl ?_
  refine hw_aload_n X (Or.inr ⟨_, rfl⟩) dd_Se_begin_1 rfl ?_
  obtain ⟨x_1, h9, vc⟩ := vc
  refine hw_get X (fe_Se_27 X) h9 dd_Se_begin_2 ?_
  obtain ⟨w2, h9, vc⟩ := vc
  refine hw_put X (fp_Se_33 X) rfl rfl h9 dd_Se_begin_5 ?_
  refine hw_iconst X (v := 0) dd_Se_begin_8 (by decide) ?_
  refine hw_istore_n X dd_Se_begin_9 (by decide) rfl ?_
  exact hK _ _ _ _ _ _ vc
def vc_Se_begin_10 (l : Launch) (g : hw_G) (R : Room) (K : Nat → Nat → Nat → List (Option Value) → List Value → hw_H → Prop) (PR : Nat → Nat → hw_H → Prop) (k n : Nat) (a0 : Nat) (a1 : Nat) (x2 : Int32) (w : hw_H) : Prop := ∃ x_1 : Int32, hw_g w a0 2 1 (.int x_1) ∧ (((x_1 ≤ x2) → (∃ x_2 : Int32, hw_g w a1 3 0 (.int x_2) ∧ (∃ w3 : hw_H, hw_p w a0 2 2 (.int x_2) w3 ∧ (∃ w4 : hw_H, hw_p w3 a0 2 3 (.int (0 : Int32)) w4 ∧ hw_b (0 : Int32) ∧ (∃ w5 : hw_H, hw_p w4 a0 2 4 (.int (0 : Int32)) w5 ∧ hw_b (0 : Int32) ∧ (∃ w6 : hw_H, hw_p w5 a0 2 5 (.int (0 : Int32)) w6 ∧ hw_b (0 : Int32) ∧ (∃ w7 : hw_H, hw_p w6 a0 2 6 (.int (1 : Int32)) w7 ∧ hw_b (1 : Int32) ∧ (∃ w8 : hw_H, hw_p w7 a0 2 7 (.int (0 : Int32)) w8 ∧ (∃ w9 : hw_H, hw_p w8 a0 2 10 (.int (0 : Int32)) w9 ∧ (∃ w10 : hw_H, hw_p w9 a0 2 12 (.int (0 : Int32)) w10 ∧ (PR k n w10))))))))))) ∧ ((¬ x_1 ≤ x2) → (∃ b_11 : Nat, hw_g w a0 2 0 (.ref b_11) ∧ (∃ b_12 : Nat, hw_g w a1 3 1 (.ref b_12) ∧ (∃ b_13 : Nat, hw_ar g w b_12 x2 (some b_13) ∧ (∃ x_14 : Int32, hw_g w b_13 5 3 (.int x_14) ∧ (∃ w15 : hw_H, hw_as g 0 w b_11 x2 x_14 w15 ∧ (K k n 10 [some (.ref a0), some (.ref a1), some (.int (x2 + 1))] [] w15))))))))
set_option maxHeartbeats 4000000 in
set_option maxRecDepth 100000 in
theorem sg_Se_begin_10 (X : hw_X p m c cb_Se_begin 3 s args (mw_Se_begin) "ProofCourt$Search" g A) {K : Nat → Nat → Nat → List (Option Value) → List Value → hw_H → Prop} {PR : Nat → Nat → hw_H → Prop} (hK : ∀ (k n pc : Nat) (lv : List (Option Value)) (st : List Value) (w : hw_H), K k n pc lv st w → hw_J p l e R s m args below meth c Q 3 g A k n pc lv st w) (rt : ∀ {k n pc : Nat} {lv : List (Option Value)} {w : hw_H}, decode cb_Se_begin pc = .ok (.return_, 1) → PR k n w → hw_J p l e R s m args below meth c Q 3 g A k n pc lv [] w) {a0 : Nat} {a1 : Nat} {x2 : Int32} (vc : vc_Se_begin_10 l g R K PR k n a0 a1 x2 w) : hw_J p l e R s m args below meth c Q 3 g A k n 10 [some (.ref a0), some (.ref a1), some (.int x2)] [] w := by
  unfold vc_Se_begin_10 at vc
  refine hw_iload_n X dd_Se_begin_10 rfl ?_
  refine hw_aload_n X (Or.inr ⟨_, rfl⟩) dd_Se_begin_11 rfl ?_
  obtain ⟨x_1, h9, vc⟩ := vc
  refine hw_get X (fe_Se_33 X) h9 dd_Se_begin_12 ?_
  refine hw_icmp_ge X (tgt := 39) dd_Se_begin_15 rfl (fun hc => ?_) (fun hc => ?_)
  · replace vc := vc.1 hc
    refine hw_aload_n X (Or.inr ⟨_, rfl⟩) dd_Se_begin_39 rfl ?_
    refine hw_aload_n X (Or.inr ⟨_, rfl⟩) dd_Se_begin_40 rfl ?_
    obtain ⟨x_2, h9, vc⟩ := vc
    refine hw_get X (fe_Se_42 X) h9 dd_Se_begin_41 ?_
    obtain ⟨w3, h9, vc⟩ := vc
    refine hw_put X (fp_Se_45 X) rfl rfl h9 dd_Se_begin_44 ?_
    refine hw_aload_n X (Or.inr ⟨_, rfl⟩) dd_Se_begin_47 rfl ?_
    refine hw_iconst X (v := 0) dd_Se_begin_48 (by decide) ?_
    obtain ⟨w4, h9, h8, vc⟩ := vc
    refine hw_put X (fp_Se_46 X) (hw_b_nar h8) (hw_b_fit h8) h9 dd_Se_begin_49 ?_
    refine hw_aload_n X (Or.inr ⟨_, rfl⟩) dd_Se_begin_52 rfl ?_
    refine hw_iconst X (v := 0) dd_Se_begin_53 (by decide) ?_
    obtain ⟨w5, h9, h8, vc⟩ := vc
    refine hw_put X (fp_Se_50 X) (hw_b_nar h8) (hw_b_fit h8) h9 dd_Se_begin_54 ?_
    refine hw_aload_n X (Or.inr ⟨_, rfl⟩) dd_Se_begin_57 rfl ?_
    refine hw_iconst X (v := 0) dd_Se_begin_58 (by decide) ?_
    obtain ⟨w6, h9, h8, vc⟩ := vc
    refine hw_put X (fp_Se_53 X) (hw_b_nar h8) (hw_b_fit h8) h9 dd_Se_begin_59 ?_
    refine hw_aload_n X (Or.inr ⟨_, rfl⟩) dd_Se_begin_62 rfl ?_
    refine hw_iconst X (v := 1) dd_Se_begin_63 (by decide) ?_
    obtain ⟨w7, h9, h8, vc⟩ := vc
    refine hw_put X (fp_Se_56 X) (hw_b_nar h8) (hw_b_fit h8) h9 dd_Se_begin_64 ?_
    refine hw_aload_n X (Or.inr ⟨_, rfl⟩) dd_Se_begin_67 rfl ?_
    refine hw_iconst X (v := 0) dd_Se_begin_68 (by decide) ?_
    obtain ⟨w8, h9, vc⟩ := vc
    refine hw_put X (fp_Se_59 X) rfl rfl h9 dd_Se_begin_69 ?_
    refine hw_aload_n X (Or.inr ⟨_, rfl⟩) dd_Se_begin_72 rfl ?_
    refine hw_iconst X (v := 0) dd_Se_begin_73 (by decide) ?_
    obtain ⟨w9, h9, vc⟩ := vc
    refine hw_put X (fp_Se_62 X) rfl rfl h9 dd_Se_begin_74 ?_
    refine hw_aload_n X (Or.inr ⟨_, rfl⟩) dd_Se_begin_77 rfl ?_
    refine hw_iconst X (v := 0) dd_Se_begin_78 (by decide) ?_
    obtain ⟨w10, h9, vc⟩ := vc
    refine hw_put X (fp_Se_65 X) rfl rfl h9 dd_Se_begin_79 ?_
    exact rt dd_Se_begin_82 vc
  · replace vc := vc.2 hc
    refine hw_aload_n X (Or.inr ⟨_, rfl⟩) dd_Se_begin_18 rfl ?_
    obtain ⟨b_11, h9, vc⟩ := vc
    refine hw_get X (fe_Se_9 X) h9 dd_Se_begin_19 ?_
    refine hw_iload_n X dd_Se_begin_22 rfl ?_
    refine hw_aload_n X (Or.inr ⟨_, rfl⟩) dd_Se_begin_23 rfl ?_
    obtain ⟨b_12, h9, vc⟩ := vc
    refine hw_get X (fe_Se_34 X) h9 dd_Se_begin_24 ?_
    refine hw_iload_n X dd_Se_begin_27 rfl ?_
    obtain ⟨b_13, h9, vc⟩ := vc
    refine hw_aald X h9 dd_Se_begin_28 ?_
    obtain ⟨x_14, h9, vc⟩ := vc
    refine hw_get X (fe_Se_37 X) h9 dd_Se_begin_29 ?_
    obtain ⟨w15, h9, vc⟩ := vc
    refine hw_iast X h9 dd_Se_begin_32 ?_
    refine hw_iinc X (v := (x2 + 1)) dd_Se_begin_33 rfl rfl (by decide) rfl ?_
    refine hw_goto X (tgt := 10) dd_Se_begin_36 rfl ?_
    exact hK _ _ _ _ _ _ vc
end
section
variable {p : Program} {l : Launch} {e : Env} {R : Room} {s : State} {m : MethodId} {args : Array Value} {below : List Frame} {meth : Method} {c : Code} {Q : State → Prop} {g : hw_G} {A : Nat → Prop} {k n : Nat} {w : hw_H}
def vc_Se_finds_0 (l : Launch) (g : hw_G) (R : Room) (K : Nat → Nat → Nat → List (Option Value) → List Value → hw_H → Prop) (PR : Nat → Nat → Int32 → hw_H → Prop) (k n : Nat) (a0 : Nat) (w : hw_H) : Prop := K k n 2 [some (.ref a0), some (.int (0 : Int32)), none] [] w
set_option maxHeartbeats 4000000 in
set_option maxRecDepth 100000 in
theorem sg_Se_finds_0 (X : hw_X p m c cb_Se_finds 3 s args (mw_Se_finds) "ProofCourt$Search" g A) {K : Nat → Nat → Nat → List (Option Value) → List Value → hw_H → Prop} {PR : Nat → Nat → Int32 → hw_H → Prop} (hK : ∀ (k n pc : Nat) (lv : List (Option Value)) (st : List Value) (w : hw_H), K k n pc lv st w → hw_J p l e R s m args below meth c Q 3 g A k n pc lv st w) (rt : ∀ {k n pc : Nat} {lv : List (Option Value)} {x : Int32} {w : hw_H}, decode cb_Se_finds pc = .ok (.ireturn, 1) → PR k n x w → hw_J p l e R s m args below meth c Q 3 g A k n pc lv [.int x] w) {a0 : Nat} (vc : vc_Se_finds_0 l g R K PR k n a0 w) : hw_J p l e R s m args below meth c Q 3 g A k n 0 [some (.ref a0), none, none] [] w := by
  unfold vc_Se_finds_0 at vc
  refine hw_iconst X (v := 0) dd_Se_finds_0 (by decide) ?_
  refine hw_istore_n X dd_Se_finds_1 (by decide) rfl ?_
  exact hK _ _ _ _ _ _ vc
def vc_Se_finds_2 (l : Launch) (g : hw_G) (R : Room) (K : Nat → Nat → Nat → List (Option Value) → List Value → hw_H → Prop) (PR : Nat → Nat → Int32 → hw_H → Prop) (k n : Nat) (a0 : Nat) (x1 : Int32) (w : hw_H) : Prop := (((22539 : Int32) ≤ x1) → (∃ x_1 : Int32, hw_g w a0 2 4 (.int x_1) ∧ (PR k n x_1 w))) ∧ ((¬ (22539 : Int32) ≤ x1) → (∃ x_2 : Int32, hw_g w a0 2 3 (.int x_2) ∧ (((¬ x_2 = 0) → (∃ x_3 : Int32, hw_g w a0 2 4 (.int x_3) ∧ (PR k n x_3 w))) ∧ ((x_2 = 0) → (hw_o w a0 "ProofCourt$Search" ∧ hw_ci l g R k n ym_Se_propagate (mw_Se_propagate) 5 [.ref a0] w (fun (k5 n6 : Nat) (x_7 : Int32) (w4 : hw_H) => ((x_7 = (-1 : Int32)) → (∃ x_8 : Int32, hw_g w4 a0 2 10 (.int x_8) ∧ (∃ x_9 : Int32, hw_g w4 a0 2 2 (.int x_9) ∧ (((x_9 ≤ x_8) → (∃ w10 : hw_H, hw_p w4 a0 2 4 (.int (1 : Int32)) w10 ∧ hw_b (1 : Int32) ∧ (∃ w11 : hw_H, hw_p w10 a0 2 3 (.int (1 : Int32)) w11 ∧ hw_b (1 : Int32) ∧ (K k5 n6 2 [some (.ref a0), some (.int (x1 + 1)), none] [] w11)))) ∧ ((¬ x_9 ≤ x_8) → (hw_o w4 a0 "ProofCourt$Search" ∧ hw_cv l g R k5 n6 ym_Se_decide (mw_Se_decide) 2 [.ref a0] w4 (fun (k13 n14 : Nat) (w12 : hw_H) => K k13 n14 2 [some (.ref a0), some (.int (x1 + 1)), none] [] w12))))))) ∧ ((¬ x_7 = (-1 : Int32)) → (hw_o w4 a0 "ProofCourt$Search" ∧ hw_cv l g R k5 n6 ym_Se_resolve (mw_Se_resolve) 3 [.ref a0, .int x_7] w4 (fun (k16 n17 : Nat) (w15 : hw_H) => K k16 n17 2 [some (.ref a0), some (.int (x1 + 1)), none] [] w15)))))))))
set_option maxHeartbeats 4000000 in
set_option maxRecDepth 100000 in
theorem sg_Se_finds_2 (X : hw_X p m c cb_Se_finds 3 s args (mw_Se_finds) "ProofCourt$Search" g A) {K : Nat → Nat → Nat → List (Option Value) → List Value → hw_H → Prop} {PR : Nat → Nat → Int32 → hw_H → Prop} (hK : ∀ (k n pc : Nat) (lv : List (Option Value)) (st : List Value) (w : hw_H), K k n pc lv st w → hw_J p l e R s m args below meth c Q 3 g A k n pc lv st w) (rt : ∀ {k n pc : Nat} {lv : List (Option Value)} {x : Int32} {w : hw_H}, decode cb_Se_finds pc = .ok (.ireturn, 1) → PR k n x w → hw_J p l e R s m args below meth c Q 3 g A k n pc lv [.int x] w) {a0 : Nat} {x1 : Int32} (vc : vc_Se_finds_2 l g R K PR k n a0 x1 w) : hw_J p l e R s m args below meth c Q 3 g A k n 2 [some (.ref a0), some (.int x1), none] [] w := by
  unfold vc_Se_finds_2 at vc
  refine hw_iload_n X dd_Se_finds_2 rfl ?_
  refine hw_sipush X (v := 22539) dd_Se_finds_3 (by decide) ?_
  refine hw_icmp_ge X (tgt := 68) dd_Se_finds_6 rfl (fun hc => ?_) (fun hc => ?_)
  · replace vc := vc.1 hc
    refine hw_aload_n X (Or.inr ⟨_, rfl⟩) dd_Se_finds_68 rfl ?_
    obtain ⟨x_1, h9, vc⟩ := vc
    refine hw_get X (fe_Se_50 X) h9 dd_Se_finds_69 ?_
    exact rt dd_Se_finds_72 vc
  · replace vc := vc.2 hc
    refine hw_aload_n X (Or.inr ⟨_, rfl⟩) dd_Se_finds_9 rfl ?_
    obtain ⟨x_2, h9, vc⟩ := vc
    refine hw_get X (fe_Se_46 X) h9 dd_Se_finds_10 ?_
    refine hw_if_ne X (tgt := 68) dd_Se_finds_13 rfl (fun hc => ?_) (fun hc => ?_)
    · replace vc := vc.1 hc
      refine hw_aload_n X (Or.inr ⟨_, rfl⟩) dd_Se_finds_68 rfl ?_
      obtain ⟨x_3, h9, vc⟩ := vc
      refine hw_get X (fe_Se_50 X) h9 dd_Se_finds_69 ?_
      exact rt dd_Se_finds_72 vc
    · replace vc := vc.2 hc
      refine hw_aload_n X (Or.inr ⟨_, rfl⟩) dd_Se_finds_16 rfl ?_
      obtain ⟨hob, rm9, po9, hM9, hf9, hc9, vc⟩ := vc
      refine hw_callVi X (As := []) (ye_Se_68 X) hM9 rfl hf9 hc9 hob (Nat.le_of_ble_eq_true rfl) rfl dd_Se_finds_17 (fun x_7 w4 hp => ?_)
      replace vc := vc x_7 w4 hp
      refine hw_istore_n X dd_Se_finds_20 (by decide) rfl ?_
      refine hw_iload_n X dd_Se_finds_21 rfl ?_
      refine hw_iconst X (v := -1) dd_Se_finds_22 (by decide) ?_
      refine hw_icmp_eq X (tgt := 34) dd_Se_finds_23 rfl (fun hc => ?_) (fun hc => ?_)
      · replace vc := vc.1 hc
        refine hw_aload_n X (Or.inr ⟨_, rfl⟩) dd_Se_finds_34 rfl ?_
        obtain ⟨x_8, h9, vc⟩ := vc
        refine hw_get X (fe_Se_62 X) h9 dd_Se_finds_35 ?_
        refine hw_aload_n X (Or.inr ⟨_, rfl⟩) dd_Se_finds_38 rfl ?_
        obtain ⟨x_9, h9, vc⟩ := vc
        refine hw_get X (fe_Se_45 X) h9 dd_Se_finds_39 ?_
        refine hw_icmp_ge X (tgt := 52) dd_Se_finds_42 rfl (fun hc => ?_) (fun hc => ?_)
        · replace vc := vc.1 hc
          refine hw_aload_n X (Or.inr ⟨_, rfl⟩) dd_Se_finds_52 rfl ?_
          refine hw_iconst X (v := 1) dd_Se_finds_53 (by decide) ?_
          obtain ⟨w10, h9, h8, vc⟩ := vc
          refine hw_put X (fp_Se_50 X) (hw_b_nar h8) (hw_b_fit h8) h9 dd_Se_finds_54 ?_
          refine hw_aload_n X (Or.inr ⟨_, rfl⟩) dd_Se_finds_57 rfl ?_
          refine hw_iconst X (v := 1) dd_Se_finds_58 (by decide) ?_
          obtain ⟨w11, h9, h8, vc⟩ := vc
          refine hw_put X (fp_Se_46 X) (hw_b_nar h8) (hw_b_fit h8) h9 dd_Se_finds_59 ?_
          refine hw_iinc X (v := (x1 + 1)) dd_Se_finds_62 rfl rfl (by decide) rfl ?_
          refine hw_goto X (tgt := 2) dd_Se_finds_65 rfl ?_
          exact hw_drop (lv9 := [some (.ref a0), some (.int (x1 + 1)), none]) (⟨rfl, ⟨rfl, ⟨trivial, trivial⟩⟩⟩) (hK _ _ _ _ _ _ vc)
        · replace vc := vc.2 hc
          refine hw_aload_n X (Or.inr ⟨_, rfl⟩) dd_Se_finds_45 rfl ?_
          obtain ⟨hob, rm9, po9, hM9, hf9, hc9, vc⟩ := vc
          refine hw_callVv X (As := []) (ye_Se_76 X) hM9 rfl hf9 hc9 hob (Nat.le_of_ble_eq_true rfl) rfl dd_Se_finds_46 (fun w12 hp => ?_)
          replace vc := vc w12 hp
          refine hw_goto X (tgt := 62) dd_Se_finds_49 rfl ?_
          refine hw_iinc X (v := (x1 + 1)) dd_Se_finds_62 rfl rfl (by decide) rfl ?_
          refine hw_goto X (tgt := 2) dd_Se_finds_65 rfl ?_
          exact hw_drop (lv9 := [some (.ref a0), some (.int (x1 + 1)), none]) (⟨rfl, ⟨rfl, ⟨trivial, trivial⟩⟩⟩) (hK _ _ _ _ _ _ vc)
      · replace vc := vc.2 hc
        refine hw_aload_n X (Or.inr ⟨_, rfl⟩) dd_Se_finds_26 rfl ?_
        refine hw_iload_n X dd_Se_finds_27 rfl ?_
        obtain ⟨hob, rm9, po9, hM9, hf9, hc9, vc⟩ := vc
        refine hw_callVv X (As := [.int x_7]) (ye_Se_72 X) hM9 rfl hf9 hc9 hob (Nat.le_of_ble_eq_true rfl) rfl dd_Se_finds_28 (fun w15 hp => ?_)
        replace vc := vc w15 hp
        refine hw_goto X (tgt := 62) dd_Se_finds_31 rfl ?_
        refine hw_iinc X (v := (x1 + 1)) dd_Se_finds_62 rfl rfl (by decide) rfl ?_
        refine hw_goto X (tgt := 2) dd_Se_finds_65 rfl ?_
        exact hw_drop (lv9 := [some (.ref a0), some (.int (x1 + 1)), none]) (⟨rfl, ⟨rfl, ⟨trivial, trivial⟩⟩⟩) (hK _ _ _ _ _ _ vc)
end
section
variable {p : Program} {l : Launch} {e : Env} {R : Room} {s : State} {m : MethodId} {args : Array Value} {below : List Frame} {meth : Method} {c : Code} {Q : State → Prop} {g : hw_G} {A : Nat → Prop} {k n : Nat} {w : hw_H}
def vc_Se_propagate_0 (l : Launch) (g : hw_G) (R : Room) (K : Nat → Nat → Nat → List (Option Value) → List Value → hw_H → Prop) (PR : Nat → Nat → Int32 → hw_H → Prop) (k n : Nat) (a0 : Nat) (w : hw_H) : Prop := K k n 2 [some (.ref a0), some (.int (0 : Int32)), none, none, none] [] w
set_option maxHeartbeats 4000000 in
set_option maxRecDepth 100000 in
theorem sg_Se_propagate_0 (X : hw_X p m c cb_Se_propagate 5 s args (mw_Se_propagate) "ProofCourt$Search" g A) {K : Nat → Nat → Nat → List (Option Value) → List Value → hw_H → Prop} {PR : Nat → Nat → Int32 → hw_H → Prop} (hK : ∀ (k n pc : Nat) (lv : List (Option Value)) (st : List Value) (w : hw_H), K k n pc lv st w → hw_J p l e R s m args below meth c Q 5 g A k n pc lv st w) (rt : ∀ {k n pc : Nat} {lv : List (Option Value)} {x : Int32} {w : hw_H}, decode cb_Se_propagate pc = .ok (.ireturn, 1) → PR k n x w → hw_J p l e R s m args below meth c Q 5 g A k n pc lv [.int x] w) {a0 : Nat} (vc : vc_Se_propagate_0 l g R K PR k n a0 w) : hw_J p l e R s m args below meth c Q 5 g A k n 0 [some (.ref a0), none, none, none, none] [] w := by
  unfold vc_Se_propagate_0 at vc
  refine hw_iconst X (v := 0) dd_Se_propagate_0 (by decide) ?_
  refine hw_istore_n X dd_Se_propagate_1 (by decide) rfl ?_
  exact hK _ _ _ _ _ _ vc
def vc_Se_propagate_2 (l : Launch) (g : hw_G) (R : Room) (K : Nat → Nat → Nat → List (Option Value) → List Value → hw_H → Prop) (PR : Nat → Nat → Int32 → hw_H → Prop) (k n : Nat) (a0 : Nat) (x1 : Int32) (w : hw_H) : Prop := ∃ x_1 : Int32, hw_g w a0 2 2 (.int x_1) ∧ (((x_1 < x1) → (PR k n (-1 : Int32) w)) ∧ ((¬ x_1 < x1) → (∃ x_2 : Int32, hw_g w a0 2 7 (.int x_2) ∧ (K k n 17 [some (.ref a0), some (.int x1), some (.int x_2), some (.int (0 : Int32)), none] [] w))))
set_option maxHeartbeats 4000000 in
set_option maxRecDepth 100000 in
theorem sg_Se_propagate_2 (X : hw_X p m c cb_Se_propagate 5 s args (mw_Se_propagate) "ProofCourt$Search" g A) {K : Nat → Nat → Nat → List (Option Value) → List Value → hw_H → Prop} {PR : Nat → Nat → Int32 → hw_H → Prop} (hK : ∀ (k n pc : Nat) (lv : List (Option Value)) (st : List Value) (w : hw_H), K k n pc lv st w → hw_J p l e R s m args below meth c Q 5 g A k n pc lv st w) (rt : ∀ {k n pc : Nat} {lv : List (Option Value)} {x : Int32} {w : hw_H}, decode cb_Se_propagate pc = .ok (.ireturn, 1) → PR k n x w → hw_J p l e R s m args below meth c Q 5 g A k n pc lv [.int x] w) {a0 : Nat} {x1 : Int32} (vc : vc_Se_propagate_2 l g R K PR k n a0 x1 w) : hw_J p l e R s m args below meth c Q 5 g A k n 2 [some (.ref a0), some (.int x1), none, none, none] [] w := by
  unfold vc_Se_propagate_2 at vc
  refine hw_iload_n X dd_Se_propagate_2 rfl ?_
  refine hw_aload_n X (Or.inr ⟨_, rfl⟩) dd_Se_propagate_3 rfl ?_
  obtain ⟨x_1, h9, vc⟩ := vc
  refine hw_get X (fe_Se_45 X) h9 dd_Se_propagate_4 ?_
  refine hw_icmp_gt X (tgt := 91) dd_Se_propagate_7 rfl (fun hc => ?_) (fun hc => ?_)
  · replace vc := vc.1 hc
    refine hw_iconst X (v := -1) dd_Se_propagate_91 (by decide) ?_
    exact rt dd_Se_propagate_92 vc
  · replace vc := vc.2 hc
    refine hw_aload_n X (Or.inr ⟨_, rfl⟩) dd_Se_propagate_10 rfl ?_
    obtain ⟨x_2, h9, vc⟩ := vc
    refine hw_get X (fe_Se_59 X) h9 dd_Se_propagate_11 ?_
    refine hw_istore_n X dd_Se_propagate_14 (by decide) rfl ?_
    refine hw_iconst X (v := 0) dd_Se_propagate_15 (by decide) ?_
    refine hw_istore_n X dd_Se_propagate_16 (by decide) rfl ?_
    exact hK _ _ _ _ _ _ vc
def vc_Se_propagate_17 (l : Launch) (g : hw_G) (R : Room) (K : Nat → Nat → Nat → List (Option Value) → List Value → hw_H → Prop) (PR : Nat → Nat → Int32 → hw_H → Prop) (k n : Nat) (a0 : Nat) (x1 : Int32) (x2 : Int32) (x3 : Int32) (w : hw_H) : Prop := ∃ x_1 : Int32, hw_g w a0 2 1 (.int x_1) ∧ (((x_1 ≤ x3) → (∃ x_2 : Int32, hw_g w a0 2 7 (.int x_2) ∧ (((¬ x_2 = x2) → (K k n 2 [some (.ref a0), some (.int (x1 + 1)), none, none, none] [] w)) ∧ ((x_2 = x2) → (PR k n (-1 : Int32) w))))) ∧ ((¬ x_1 ≤ x3) → (∃ b_3 : Nat, hw_g w a0 2 0 (.ref b_3) ∧ (∃ x_4 : Int32, hw_ai g 0 w b_3 x3 x_4 ∧ (∃ x_5 : Int32, hw_g w a0 2 7 (.int x_5) ∧ (hw_ci l g R k n ym_Co_follow (mw_Co_follow) 3 [.int x_4, .int x_5] w (fun (k7 n8 : Nat) (x_9 : Int32) (w6 : hw_H) => ((¬ x_9 = (-1 : Int32)) → (((x_9 = (-2 : Int32)) → (K k7 n8 17 [some (.ref a0), some (.int x1), some (.int x2), some (.int (x3 + 1)), none] [] w6)) ∧ ((¬ x_9 = (-2 : Int32)) → (∃ x_10 : Int32, hw_g w6 a0 2 7 (.int x_10) ∧ (hw_o w6 a0 "ProofCourt$Search" ∧ hw_cv l g R k7 n8 ym_Se_assume (mw_Se_assume) 3 [.ref a0, .int (x_9 &&& (x_10 ^^^ (-1 : Int32))), .int x3] w6 (fun (k12 n13 : Nat) (w11 : hw_H) => K k12 n13 17 [some (.ref a0), some (.int x1), some (.int x2), some (.int (x3 + 1)), none] [] w11)))))) ∧ ((x_9 = (-1 : Int32)) → (PR k7 n8 x3 w6)))))))))
set_option maxHeartbeats 4000000 in
set_option maxRecDepth 100000 in
theorem sg_Se_propagate_17 (X : hw_X p m c cb_Se_propagate 5 s args (mw_Se_propagate) "ProofCourt$Search" g A) {K : Nat → Nat → Nat → List (Option Value) → List Value → hw_H → Prop} {PR : Nat → Nat → Int32 → hw_H → Prop} (hK : ∀ (k n pc : Nat) (lv : List (Option Value)) (st : List Value) (w : hw_H), K k n pc lv st w → hw_J p l e R s m args below meth c Q 5 g A k n pc lv st w) (rt : ∀ {k n pc : Nat} {lv : List (Option Value)} {x : Int32} {w : hw_H}, decode cb_Se_propagate pc = .ok (.ireturn, 1) → PR k n x w → hw_J p l e R s m args below meth c Q 5 g A k n pc lv [.int x] w) {a0 : Nat} {x1 : Int32} {x2 : Int32} {x3 : Int32} (vc : vc_Se_propagate_17 l g R K PR k n a0 x1 x2 x3 w) : hw_J p l e R s m args below meth c Q 5 g A k n 17 [some (.ref a0), some (.int x1), some (.int x2), some (.int x3), none] [] w := by
  unfold vc_Se_propagate_17 at vc
  refine hw_iload_n X dd_Se_propagate_17 rfl ?_
  refine hw_aload_n X (Or.inr ⟨_, rfl⟩) dd_Se_propagate_18 rfl ?_
  obtain ⟨x_1, h9, vc⟩ := vc
  refine hw_get X (fe_Se_33 X) h9 dd_Se_propagate_19 ?_
  refine hw_icmp_ge X (tgt := 75) dd_Se_propagate_22 rfl (fun hc => ?_) (fun hc => ?_)
  · replace vc := vc.1 hc
    refine hw_aload_n X (Or.inr ⟨_, rfl⟩) dd_Se_propagate_75 rfl ?_
    obtain ⟨x_2, h9, vc⟩ := vc
    refine hw_get X (fe_Se_59 X) h9 dd_Se_propagate_76 ?_
    refine hw_iload_n X dd_Se_propagate_79 rfl ?_
    refine hw_icmp_ne X (tgt := 85) dd_Se_propagate_80 rfl (fun hc => ?_) (fun hc => ?_)
    · replace vc := vc.1 hc
      refine hw_iinc X (v := (x1 + 1)) dd_Se_propagate_85 rfl rfl (by decide) rfl ?_
      refine hw_goto X (tgt := 2) dd_Se_propagate_88 rfl ?_
      exact hw_drop (lv9 := [some (.ref a0), some (.int (x1 + 1)), none, none, none]) (⟨rfl, ⟨rfl, ⟨trivial, ⟨trivial, ⟨trivial, trivial⟩⟩⟩⟩⟩) (hK _ _ _ _ _ _ vc)
    · replace vc := vc.2 hc
      refine hw_iconst X (v := -1) dd_Se_propagate_83 (by decide) ?_
      exact rt dd_Se_propagate_84 vc
  · replace vc := vc.2 hc
    refine hw_aload_n X (Or.inr ⟨_, rfl⟩) dd_Se_propagate_25 rfl ?_
    obtain ⟨b_3, h9, vc⟩ := vc
    refine hw_get X (fe_Se_9 X) h9 dd_Se_propagate_26 ?_
    refine hw_iload_n X dd_Se_propagate_29 rfl ?_
    obtain ⟨x_4, h9, vc⟩ := vc
    refine hw_iald X h9 dd_Se_propagate_30 ?_
    refine hw_aload_n X (Or.inr ⟨_, rfl⟩) dd_Se_propagate_31 rfl ?_
    obtain ⟨x_5, h9, vc⟩ := vc
    refine hw_get X (fe_Se_59 X) h9 dd_Se_propagate_32 ?_
    obtain ⟨rm9, po9, hM9, hf9, hc9, vc⟩ := vc
    refine hw_callSi X (As := [.int x_4, .int x_5]) (ye_Se_79 X) hM9 rfl hf9 hc9 (Nat.le_of_ble_eq_true rfl) rfl dd_Se_propagate_35 (fun x_9 w6 hp => ?_)
    replace vc := vc x_9 w6 hp
    refine hw_istore X dd_Se_propagate_38 (by decide) rfl ?_
    refine hw_iload X dd_Se_propagate_40 rfl ?_
    refine hw_iconst X (v := -1) dd_Se_propagate_42 (by decide) ?_
    refine hw_icmp_ne X (tgt := 48) dd_Se_propagate_43 rfl (fun hc => ?_) (fun hc => ?_)
    · replace vc := vc.1 hc
      refine hw_iload X dd_Se_propagate_48 rfl ?_
      refine hw_bipush X (v := -2) dd_Se_propagate_50 (by decide) ?_
      refine hw_icmp_eq X (tgt := 69) dd_Se_propagate_52 rfl (fun hc => ?_) (fun hc => ?_)
      · replace vc := vc.1 hc
        refine hw_iinc X (v := (x3 + 1)) dd_Se_propagate_69 rfl rfl (by decide) rfl ?_
        refine hw_goto X (tgt := 17) dd_Se_propagate_72 rfl ?_
        exact hw_drop (lv9 := [some (.ref a0), some (.int x1), some (.int x2), some (.int (x3 + 1)), none]) (⟨rfl, ⟨rfl, ⟨rfl, ⟨rfl, ⟨trivial, trivial⟩⟩⟩⟩⟩) (hK _ _ _ _ _ _ vc)
      · replace vc := vc.2 hc
        refine hw_aload_n X (Or.inr ⟨_, rfl⟩) dd_Se_propagate_55 rfl ?_
        refine hw_iload X dd_Se_propagate_56 rfl ?_
        refine hw_aload_n X (Or.inr ⟨_, rfl⟩) dd_Se_propagate_58 rfl ?_
        obtain ⟨x_10, h9, vc⟩ := vc
        refine hw_get X (fe_Se_59 X) h9 dd_Se_propagate_59 ?_
        refine hw_iconst X (v := -1) dd_Se_propagate_62 (by decide) ?_
        refine hw_ixor X dd_Se_propagate_63 ?_
        refine hw_iand X dd_Se_propagate_64 ?_
        refine hw_iload_n X dd_Se_propagate_65 rfl ?_
        obtain ⟨hob, rm9, po9, hM9, hf9, hc9, vc⟩ := vc
        refine hw_callVv X (As := [.int (x_9 &&& (x_10 ^^^ (-1 : Int32))), .int x3]) (ye_Se_83 X) hM9 rfl hf9 hc9 hob (Nat.le_of_ble_eq_true rfl) rfl dd_Se_propagate_66 (fun w11 hp => ?_)
        replace vc := vc w11 hp
        refine hw_iinc X (v := (x3 + 1)) dd_Se_propagate_69 rfl rfl (by decide) rfl ?_
        refine hw_goto X (tgt := 17) dd_Se_propagate_72 rfl ?_
        exact hw_drop (lv9 := [some (.ref a0), some (.int x1), some (.int x2), some (.int (x3 + 1)), none]) (⟨rfl, ⟨rfl, ⟨rfl, ⟨rfl, ⟨trivial, trivial⟩⟩⟩⟩⟩) (hK _ _ _ _ _ _ vc)
    · replace vc := vc.2 hc
      refine hw_iload_n X dd_Se_propagate_46 rfl ?_
      exact rt dd_Se_propagate_47 vc
end
section
variable {p : Program} {l : Launch} {e : Env} {R : Room} {s : State} {m : MethodId} {args : Array Value} {below : List Frame} {meth : Method} {c : Code} {Q : State → Prop} {g : hw_G} {A : Nat → Prop} {k n : Nat} {w : hw_H}
def vc_Se_assume_0 (l : Launch) (g : hw_G) (R : Room) (K : Nat → Nat → Nat → List (Option Value) → List Value → hw_H → Prop) (PR : Nat → Nat → hw_H → Prop) (k n : Nat) (a0 : Nat) (x1 : Int32) (x2 : Int32) (w : hw_H) : Prop := ∃ x_1 : Int32, hw_g w a0 2 10 (.int x_1) ∧ ((((10 : Int32) ≤ x_1) → (PR k n w)) ∧ ((¬ (10 : Int32) ≤ x_1) → (∃ b_2 : Nat, hw_g w a0 2 8 (.ref b_2) ∧ (∃ x_3 : Int32, hw_g w a0 2 10 (.int x_3) ∧ (∃ w4 : hw_H, hw_as g 0 w b_2 x_3 x1 w4 ∧ (∃ b_5 : Nat, hw_g w4 a0 2 9 (.ref b_5) ∧ (∃ x_6 : Int32, hw_g w4 a0 2 10 (.int x_6) ∧ (∃ w7 : hw_H, hw_as g 0 w4 b_5 x_6 x2 w7 ∧ (∃ x_8 : Int32, hw_g w7 a0 2 10 (.int x_8) ∧ (∃ w9 : hw_H, hw_p w7 a0 2 10 (.int (x_8 + (1 : Int32))) w9 ∧ (∃ x_10 : Int32, hw_g w9 a0 2 7 (.int x_10) ∧ (∃ w11 : hw_H, hw_p w9 a0 2 7 (.int (x_10 ||| x1)) w11 ∧ (PR k n w11)))))))))))))
set_option maxHeartbeats 4000000 in
set_option maxRecDepth 100000 in
theorem sg_Se_assume_0 (X : hw_X p m c cb_Se_assume 3 s args (mw_Se_assume) "ProofCourt$Search" g A) {K : Nat → Nat → Nat → List (Option Value) → List Value → hw_H → Prop} {PR : Nat → Nat → hw_H → Prop} (hK : ∀ (k n pc : Nat) (lv : List (Option Value)) (st : List Value) (w : hw_H), K k n pc lv st w → hw_J p l e R s m args below meth c Q 3 g A k n pc lv st w) (rt : ∀ {k n pc : Nat} {lv : List (Option Value)} {w : hw_H}, decode cb_Se_assume pc = .ok (.return_, 1) → PR k n w → hw_J p l e R s m args below meth c Q 3 g A k n pc lv [] w) {a0 : Nat} {x1 : Int32} {x2 : Int32} (vc : vc_Se_assume_0 l g R K PR k n a0 x1 x2 w) : hw_J p l e R s m args below meth c Q 3 g A k n 0 [some (.ref a0), some (.int x1), some (.int x2)] [] w := by
  unfold vc_Se_assume_0 at vc
  refine hw_aload_n X (Or.inr ⟨_, rfl⟩) dd_Se_assume_0 rfl ?_
  obtain ⟨x_1, h9, vc⟩ := vc
  refine hw_get X (fe_Se_62 X) h9 dd_Se_assume_1 ?_
  refine hw_bipush X (v := 10) dd_Se_assume_4 (by decide) ?_
  refine hw_icmp_ge X (tgt := 49) dd_Se_assume_6 rfl (fun hc => ?_) (fun hc => ?_)
  · replace vc := vc.1 hc
    exact rt dd_Se_assume_49 vc
  · replace vc := vc.2 hc
    refine hw_aload_n X (Or.inr ⟨_, rfl⟩) dd_Se_assume_9 rfl ?_
    obtain ⟨b_2, h9, vc⟩ := vc
    refine hw_get X (fe_Se_15 X) h9 dd_Se_assume_10 ?_
    refine hw_aload_n X (Or.inr ⟨_, rfl⟩) dd_Se_assume_13 rfl ?_
    obtain ⟨x_3, h9, vc⟩ := vc
    refine hw_get X (fe_Se_62 X) h9 dd_Se_assume_14 ?_
    refine hw_iload_n X dd_Se_assume_17 rfl ?_
    obtain ⟨w4, h9, vc⟩ := vc
    refine hw_iast X h9 dd_Se_assume_18 ?_
    refine hw_aload_n X (Or.inr ⟨_, rfl⟩) dd_Se_assume_19 rfl ?_
    obtain ⟨b_5, h9, vc⟩ := vc
    refine hw_get X (fe_Se_18 X) h9 dd_Se_assume_20 ?_
    refine hw_aload_n X (Or.inr ⟨_, rfl⟩) dd_Se_assume_23 rfl ?_
    obtain ⟨x_6, h9, vc⟩ := vc
    refine hw_get X (fe_Se_62 X) h9 dd_Se_assume_24 ?_
    refine hw_iload_n X dd_Se_assume_27 rfl ?_
    obtain ⟨w7, h9, vc⟩ := vc
    refine hw_iast X h9 dd_Se_assume_28 ?_
    refine hw_aload_n X (Or.inr ⟨_, rfl⟩) dd_Se_assume_29 rfl ?_
    refine hw_dup X rfl dd_Se_assume_30 ?_
    obtain ⟨x_8, h9, vc⟩ := vc
    refine hw_get X (fe_Se_62 X) h9 dd_Se_assume_31 ?_
    refine hw_iconst X (v := 1) dd_Se_assume_34 (by decide) ?_
    refine hw_iadd X dd_Se_assume_35 ?_
    obtain ⟨w9, h9, vc⟩ := vc
    refine hw_put X (fp_Se_62 X) rfl rfl h9 dd_Se_assume_36 ?_
    refine hw_aload_n X (Or.inr ⟨_, rfl⟩) dd_Se_assume_39 rfl ?_
    refine hw_dup X rfl dd_Se_assume_40 ?_
    obtain ⟨x_10, h9, vc⟩ := vc
    refine hw_get X (fe_Se_59 X) h9 dd_Se_assume_41 ?_
    refine hw_iload_n X dd_Se_assume_44 rfl ?_
    refine hw_ior X dd_Se_assume_45 ?_
    obtain ⟨w11, h9, vc⟩ := vc
    refine hw_put X (fp_Se_59 X) rfl rfl h9 dd_Se_assume_46 ?_
    exact rt dd_Se_assume_49 vc
end
section
variable {p : Program} {l : Launch} {e : Env} {R : Room} {s : State} {m : MethodId} {args : Array Value} {below : List Frame} {meth : Method} {c : Code} {Q : State → Prop} {g : hw_G} {A : Nat → Prop} {k n : Nat} {w : hw_H}
def vc_Se_decide_0 (l : Launch) (g : hw_G) (R : Room) (K : Nat → Nat → Nat → List (Option Value) → List Value → hw_H → Prop) (PR : Nat → Nat → hw_H → Prop) (k n : Nat) (a0 : Nat) (w : hw_H) : Prop := K k n 2 [some (.ref a0), some (.int (1 : Int32))] [] w
set_option maxHeartbeats 4000000 in
set_option maxRecDepth 100000 in
theorem sg_Se_decide_0 (X : hw_X p m c cb_Se_decide 2 s args (mw_Se_decide) "ProofCourt$Search" g A) {K : Nat → Nat → Nat → List (Option Value) → List Value → hw_H → Prop} {PR : Nat → Nat → hw_H → Prop} (hK : ∀ (k n pc : Nat) (lv : List (Option Value)) (st : List Value) (w : hw_H), K k n pc lv st w → hw_J p l e R s m args below meth c Q 2 g A k n pc lv st w) (rt : ∀ {k n pc : Nat} {lv : List (Option Value)} {w : hw_H}, decode cb_Se_decide pc = .ok (.return_, 1) → PR k n w → hw_J p l e R s m args below meth c Q 2 g A k n pc lv [] w) {a0 : Nat} (vc : vc_Se_decide_0 l g R K PR k n a0 w) : hw_J p l e R s m args below meth c Q 2 g A k n 0 [some (.ref a0), none] [] w := by
  unfold vc_Se_decide_0 at vc
  refine hw_iconst X (v := 1) dd_Se_decide_0 (by decide) ?_
  refine hw_istore_n X dd_Se_decide_1 (by decide) rfl ?_
  exact hK _ _ _ _ _ _ vc
def vc_Se_decide_2 (l : Launch) (g : hw_G) (R : Room) (K : Nat → Nat → Nat → List (Option Value) → List Value → hw_H → Prop) (PR : Nat → Nat → hw_H → Prop) (k n : Nat) (a0 : Nat) (x1 : Int32) (w : hw_H) : Prop := ∃ x_1 : Int32, hw_g w a0 2 2 (.int x_1) ∧ (((x_1 ≤ x1) → (∃ x_2 : Int32, hw_g w a0 2 12 (.int x_2) ∧ ((((10 : Int32) ≤ x_2) → (PR k n w)) ∧ ((¬ (10 : Int32) ≤ x_2) → (∃ x_3 : Int32, hw_g w a0 2 12 (.int x_3) ∧ (∃ w4 : hw_H, hw_p w a0 2 12 (.int (x_3 + (1 : Int32))) w4 ∧ (∃ b_5 : Nat, hw_g w4 a0 2 11 (.ref b_5) ∧ (∃ x_6 : Int32, hw_g w4 a0 2 12 (.int x_6) ∧ (∃ x_7 : Int32, hw_g w4 a0 2 7 (.int x_7) ∧ (∃ w8 : hw_H, hw_as g 0 w4 b_5 x_6 x_7 w8 ∧ (hw_ci l g R k n ym_Co_bit (mw_Co_bit) 1 [.int (-x1)] w8 (fun (k10 n11 : Nat) (x_12 : Int32) (w9 : hw_H) => hw_o w9 a0 "ProofCourt$Search" ∧ hw_cv l g R k10 n11 ym_Se_assume (mw_Se_assume) 3 [.ref a0, .int x_12, .int (-1 : Int32)] w9 (fun (k14 n15 : Nat) (w13 : hw_H) => PR k14 n15 w13))))))))))))) ∧ ((¬ x_1 ≤ x1) → (∃ x_16 : Int32, hw_g w a0 2 7 (.int x_16) ∧ (hw_ci l g R k n ym_Co_bit (mw_Co_bit) 1 [.int x1] w (fun (k18 n19 : Nat) (x_20 : Int32) (w17 : hw_H) => hw_ci l g R k18 n19 ym_Co_bit (mw_Co_bit) 1 [.int (-x1)] w17 (fun (k22 n23 : Nat) (x_24 : Int32) (w21 : hw_H) => (((x_16 &&& (x_20 ||| x_24)) = 0) → (∃ x_25 : Int32, hw_g w21 a0 2 12 (.int x_25) ∧ ((((10 : Int32) ≤ x_25) → (PR k22 n23 w21)) ∧ ((¬ (10 : Int32) ≤ x_25) → (∃ x_26 : Int32, hw_g w21 a0 2 12 (.int x_26) ∧ (∃ w27 : hw_H, hw_p w21 a0 2 12 (.int (x_26 + (1 : Int32))) w27 ∧ (∃ b_28 : Nat, hw_g w27 a0 2 11 (.ref b_28) ∧ (∃ x_29 : Int32, hw_g w27 a0 2 12 (.int x_29) ∧ (∃ x_30 : Int32, hw_g w27 a0 2 7 (.int x_30) ∧ (∃ w31 : hw_H, hw_as g 0 w27 b_28 x_29 x_30 w31 ∧ (hw_ci l g R k22 n23 ym_Co_bit (mw_Co_bit) 1 [.int (-x1)] w31 (fun (k33 n34 : Nat) (x_35 : Int32) (w32 : hw_H) => hw_o w32 a0 "ProofCourt$Search" ∧ hw_cv l g R k33 n34 ym_Se_assume (mw_Se_assume) 3 [.ref a0, .int x_35, .int (-1 : Int32)] w32 (fun (k37 n38 : Nat) (w36 : hw_H) => PR k37 n38 w36))))))))))))) ∧ ((¬ (x_16 &&& (x_20 ||| x_24)) = 0) → (K k22 n23 2 [some (.ref a0), some (.int (x1 + 1))] [] w21))))))))
set_option maxHeartbeats 4000000 in
set_option maxRecDepth 100000 in
theorem sg_Se_decide_2 (X : hw_X p m c cb_Se_decide 2 s args (mw_Se_decide) "ProofCourt$Search" g A) {K : Nat → Nat → Nat → List (Option Value) → List Value → hw_H → Prop} {PR : Nat → Nat → hw_H → Prop} (hK : ∀ (k n pc : Nat) (lv : List (Option Value)) (st : List Value) (w : hw_H), K k n pc lv st w → hw_J p l e R s m args below meth c Q 2 g A k n pc lv st w) (rt : ∀ {k n pc : Nat} {lv : List (Option Value)} {w : hw_H}, decode cb_Se_decide pc = .ok (.return_, 1) → PR k n w → hw_J p l e R s m args below meth c Q 2 g A k n pc lv [] w) {a0 : Nat} {x1 : Int32} (vc : vc_Se_decide_2 l g R K PR k n a0 x1 w) : hw_J p l e R s m args below meth c Q 2 g A k n 2 [some (.ref a0), some (.int x1)] [] w := by
  unfold vc_Se_decide_2 at vc
  refine hw_iload_n X dd_Se_decide_2 rfl ?_
  refine hw_aload_n X (Or.inr ⟨_, rfl⟩) dd_Se_decide_3 rfl ?_
  obtain ⟨x_1, h9, vc⟩ := vc
  refine hw_get X (fe_Se_45 X) h9 dd_Se_decide_4 ?_
  refine hw_icmp_ge X (tgt := 34) dd_Se_decide_7 rfl (fun hc => ?_) (fun hc => ?_)
  · replace vc := vc.1 hc
    refine hw_aload_n X (Or.inr ⟨_, rfl⟩) dd_Se_decide_34 rfl ?_
    obtain ⟨x_2, h9, vc⟩ := vc
    refine hw_get X (fe_Se_65 X) h9 dd_Se_decide_35 ?_
    refine hw_bipush X (v := 10) dd_Se_decide_38 (by decide) ?_
    refine hw_icmp_ge X (tgt := 76) dd_Se_decide_40 rfl (fun hc => ?_) (fun hc => ?_)
    · replace vc := vc.1 hc
      exact rt dd_Se_decide_76 vc
    · replace vc := vc.2 hc
      refine hw_aload_n X (Or.inr ⟨_, rfl⟩) dd_Se_decide_43 rfl ?_
      refine hw_dup X rfl dd_Se_decide_44 ?_
      obtain ⟨x_3, h9, vc⟩ := vc
      refine hw_get X (fe_Se_65 X) h9 dd_Se_decide_45 ?_
      refine hw_iconst X (v := 1) dd_Se_decide_48 (by decide) ?_
      refine hw_iadd X dd_Se_decide_49 ?_
      obtain ⟨w4, h9, vc⟩ := vc
      refine hw_put X (fp_Se_65 X) rfl rfl h9 dd_Se_decide_50 ?_
      refine hw_aload_n X (Or.inr ⟨_, rfl⟩) dd_Se_decide_53 rfl ?_
      obtain ⟨b_5, h9, vc⟩ := vc
      refine hw_get X (fe_Se_21 X) h9 dd_Se_decide_54 ?_
      refine hw_aload_n X (Or.inr ⟨_, rfl⟩) dd_Se_decide_57 rfl ?_
      obtain ⟨x_6, h9, vc⟩ := vc
      refine hw_get X (fe_Se_65 X) h9 dd_Se_decide_58 ?_
      refine hw_aload_n X (Or.inr ⟨_, rfl⟩) dd_Se_decide_61 rfl ?_
      obtain ⟨x_7, h9, vc⟩ := vc
      refine hw_get X (fe_Se_59 X) h9 dd_Se_decide_62 ?_
      obtain ⟨w8, h9, vc⟩ := vc
      refine hw_iast X h9 dd_Se_decide_65 ?_
      refine hw_aload_n X (Or.inr ⟨_, rfl⟩) dd_Se_decide_66 rfl ?_
      refine hw_iload_n X dd_Se_decide_67 rfl ?_
      refine hw_ineg X dd_Se_decide_68 ?_
      obtain ⟨rm9, po9, hM9, hf9, hc9, vc⟩ := vc
      refine hw_callSi X (As := [.int (-x1)]) (ye_Se_87 X) hM9 rfl hf9 hc9 (Nat.le_of_ble_eq_true rfl) rfl dd_Se_decide_69 (fun x_12 w9 hp => ?_)
      replace vc := vc x_12 w9 hp
      refine hw_iconst X (v := -1) dd_Se_decide_72 (by decide) ?_
      obtain ⟨hob, rm9, po9, hM9, hf9, hc9, vc⟩ := vc
      refine hw_callVv X (As := [.int x_12, .int (-1 : Int32)]) (ye_Se_83 X) hM9 rfl hf9 hc9 hob (Nat.le_of_ble_eq_true rfl) rfl dd_Se_decide_73 (fun w13 hp => ?_)
      replace vc := vc w13 hp
      exact rt dd_Se_decide_76 vc
  · replace vc := vc.2 hc
    refine hw_aload_n X (Or.inr ⟨_, rfl⟩) dd_Se_decide_10 rfl ?_
    obtain ⟨x_16, h9, vc⟩ := vc
    refine hw_get X (fe_Se_59 X) h9 dd_Se_decide_11 ?_
    refine hw_iload_n X dd_Se_decide_14 rfl ?_
    obtain ⟨rm9, po9, hM9, hf9, hc9, vc⟩ := vc
    refine hw_callSi X (As := [.int x1]) (ye_Se_87 X) hM9 rfl hf9 hc9 (Nat.le_of_ble_eq_true rfl) rfl dd_Se_decide_15 (fun x_20 w17 hp => ?_)
    replace vc := vc x_20 w17 hp
    refine hw_iload_n X dd_Se_decide_18 rfl ?_
    refine hw_ineg X dd_Se_decide_19 ?_
    obtain ⟨rm9, po9, hM9, hf9, hc9, vc⟩ := vc
    refine hw_callSi X (As := [.int (-x1)]) (ye_Se_87 X) hM9 rfl hf9 hc9 (Nat.le_of_ble_eq_true rfl) rfl dd_Se_decide_20 (fun x_24 w21 hp => ?_)
    replace vc := vc x_24 w21 hp
    refine hw_ior X dd_Se_decide_23 ?_
    refine hw_iand X dd_Se_decide_24 ?_
    refine hw_if_eq X (tgt := 34) dd_Se_decide_25 rfl (fun hc => ?_) (fun hc => ?_)
    · replace vc := vc.1 hc
      refine hw_aload_n X (Or.inr ⟨_, rfl⟩) dd_Se_decide_34 rfl ?_
      obtain ⟨x_25, h9, vc⟩ := vc
      refine hw_get X (fe_Se_65 X) h9 dd_Se_decide_35 ?_
      refine hw_bipush X (v := 10) dd_Se_decide_38 (by decide) ?_
      refine hw_icmp_ge X (tgt := 76) dd_Se_decide_40 rfl (fun hc => ?_) (fun hc => ?_)
      · replace vc := vc.1 hc
        exact rt dd_Se_decide_76 vc
      · replace vc := vc.2 hc
        refine hw_aload_n X (Or.inr ⟨_, rfl⟩) dd_Se_decide_43 rfl ?_
        refine hw_dup X rfl dd_Se_decide_44 ?_
        obtain ⟨x_26, h9, vc⟩ := vc
        refine hw_get X (fe_Se_65 X) h9 dd_Se_decide_45 ?_
        refine hw_iconst X (v := 1) dd_Se_decide_48 (by decide) ?_
        refine hw_iadd X dd_Se_decide_49 ?_
        obtain ⟨w27, h9, vc⟩ := vc
        refine hw_put X (fp_Se_65 X) rfl rfl h9 dd_Se_decide_50 ?_
        refine hw_aload_n X (Or.inr ⟨_, rfl⟩) dd_Se_decide_53 rfl ?_
        obtain ⟨b_28, h9, vc⟩ := vc
        refine hw_get X (fe_Se_21 X) h9 dd_Se_decide_54 ?_
        refine hw_aload_n X (Or.inr ⟨_, rfl⟩) dd_Se_decide_57 rfl ?_
        obtain ⟨x_29, h9, vc⟩ := vc
        refine hw_get X (fe_Se_65 X) h9 dd_Se_decide_58 ?_
        refine hw_aload_n X (Or.inr ⟨_, rfl⟩) dd_Se_decide_61 rfl ?_
        obtain ⟨x_30, h9, vc⟩ := vc
        refine hw_get X (fe_Se_59 X) h9 dd_Se_decide_62 ?_
        obtain ⟨w31, h9, vc⟩ := vc
        refine hw_iast X h9 dd_Se_decide_65 ?_
        refine hw_aload_n X (Or.inr ⟨_, rfl⟩) dd_Se_decide_66 rfl ?_
        refine hw_iload_n X dd_Se_decide_67 rfl ?_
        refine hw_ineg X dd_Se_decide_68 ?_
        obtain ⟨rm9, po9, hM9, hf9, hc9, vc⟩ := vc
        refine hw_callSi X (As := [.int (-x1)]) (ye_Se_87 X) hM9 rfl hf9 hc9 (Nat.le_of_ble_eq_true rfl) rfl dd_Se_decide_69 (fun x_35 w32 hp => ?_)
        replace vc := vc x_35 w32 hp
        refine hw_iconst X (v := -1) dd_Se_decide_72 (by decide) ?_
        obtain ⟨hob, rm9, po9, hM9, hf9, hc9, vc⟩ := vc
        refine hw_callVv X (As := [.int x_35, .int (-1 : Int32)]) (ye_Se_83 X) hM9 rfl hf9 hc9 hob (Nat.le_of_ble_eq_true rfl) rfl dd_Se_decide_73 (fun w36 hp => ?_)
        replace vc := vc w36 hp
        exact rt dd_Se_decide_76 vc
    · replace vc := vc.2 hc
      refine hw_iinc X (v := (x1 + 1)) dd_Se_decide_28 rfl rfl (by decide) rfl ?_
      refine hw_goto X (tgt := 2) dd_Se_decide_31 rfl ?_
      exact hK _ _ _ _ _ _ vc
end
section
variable {p : Program} {l : Launch} {e : Env} {R : Room} {s : State} {m : MethodId} {args : Array Value} {below : List Frame} {meth : Method} {c : Code} {Q : State → Prop} {g : hw_G} {A : Nat → Prop} {k n : Nat} {w : hw_H}
def vc_Se_resolve_0 (l : Launch) (g : hw_G) (R : Room) (K : Nat → Nat → Nat → List (Option Value) → List Value → hw_H → Prop) (PR : Nat → Nat → hw_H → Prop) (k n : Nat) (a0 : Nat) (x1 : Int32) (w : hw_H) : Prop := hw_o w a0 "ProofCourt$Search" ∧ hw_ci l g R k n ym_Se_learn (mw_Se_learn) 5 [.ref a0, .int x1] w (fun (k2 n3 : Nat) (x_4 : Int32) (w1 : hw_H) => ∃ x_5 : Int32, hw_g w1 a0 2 6 (.int x_5) ∧ (((x_5 = 0) → (K k2 n3 26 [some (.ref a0), some (.int x1), some (.int x_4)] [.ref a0] w1)) ∧ ((¬ x_5 = 0) → (hw_o w1 a0 "ProofCourt$Search" ∧ hw_ci l g R k2 n3 ym_Se_stepHolds (mw_Se_stepHolds) 5 [.ref a0, .int x_4] w1 (fun (k7 n8 : Nat) (x_9 : Int32) (w6 : hw_H) => ((x_9 = 0) → (K k7 n8 26 [some (.ref a0), some (.int x1), some (.int x_4)] [.ref a0] w6)) ∧ ((¬ x_9 = 0) → (∃ w10 : hw_H, hw_p w6 a0 2 6 (.int (1 : Int32)) w10 ∧ hw_b (1 : Int32) ∧ (((x_4 = 0) → (((¬ x_4 = 0) → (∃ w11 : hw_H, hw_p w10 a0 2 5 (.int (0 : Int32)) w11 ∧ hw_b (0 : Int32) ∧ (∃ w12 : hw_H, hw_p w11 a0 2 3 (.int (1 : Int32)) w12 ∧ hw_b (1 : Int32) ∧ (PR k7 n8 w12)))) ∧ ((x_4 = 0) → (∃ w13 : hw_H, hw_p w10 a0 2 5 (.int (1 : Int32)) w13 ∧ hw_b (1 : Int32) ∧ (∃ w14 : hw_H, hw_p w13 a0 2 3 (.int (1 : Int32)) w14 ∧ hw_b (1 : Int32) ∧ (PR k7 n8 w14)))))) ∧ ((¬ x_4 = 0) → (∃ x_15 : Int32, hw_g w10 a0 2 12 (.int x_15) ∧ (((x_15 = 0) → (((¬ x_4 = 0) → (∃ w16 : hw_H, hw_p w10 a0 2 5 (.int (0 : Int32)) w16 ∧ hw_b (0 : Int32) ∧ (∃ w17 : hw_H, hw_p w16 a0 2 3 (.int (1 : Int32)) w17 ∧ hw_b (1 : Int32) ∧ (PR k7 n8 w17)))) ∧ ((x_4 = 0) → (∃ w18 : hw_H, hw_p w10 a0 2 5 (.int (1 : Int32)) w18 ∧ hw_b (1 : Int32) ∧ (∃ w19 : hw_H, hw_p w18 a0 2 3 (.int (1 : Int32)) w19 ∧ hw_b (1 : Int32) ∧ (PR k7 n8 w19)))))) ∧ ((¬ x_15 = 0) → (∃ x_20 : Int32, hw_g w10 a0 2 1 (.int x_20) ∧ (∃ b_21 : Nat, hw_g w10 a0 2 0 (.ref b_21) ∧ (∃ x_22 : Int32, hw_al g w10 b_21 x_22 ∧ (((x_20 < x_22) → (hw_o w10 a0 "ProofCourt$Search" ∧ hw_cv l g R k7 n8 ym_Se_jumpBack (mw_Se_jumpBack) 4 [.ref a0, .int x_4] w10 (fun (k24 n25 : Nat) (w23 : hw_H) => ∃ b_26 : Nat, hw_g w23 a0 2 0 (.ref b_26) ∧ (∃ x_27 : Int32, hw_g w23 a0 2 1 (.int x_27) ∧ (∃ w28 : hw_H, hw_as g 0 w23 b_26 x_27 x_4 w28 ∧ (∃ x_29 : Int32, hw_g w28 a0 2 1 (.int x_29) ∧ (∃ w30 : hw_H, hw_p w28 a0 2 1 (.int (x_29 + (1 : Int32))) w30 ∧ (PR k24 n25 w30)))))))) ∧ ((¬ x_20 < x_22) → (((¬ x_4 = 0) → (∃ w31 : hw_H, hw_p w10 a0 2 5 (.int (0 : Int32)) w31 ∧ hw_b (0 : Int32) ∧ (∃ w32 : hw_H, hw_p w31 a0 2 3 (.int (1 : Int32)) w32 ∧ hw_b (1 : Int32) ∧ (PR k7 n8 w32)))) ∧ ((x_4 = 0) → (∃ w33 : hw_H, hw_p w10 a0 2 5 (.int (1 : Int32)) w33 ∧ hw_b (1 : Int32) ∧ (∃ w34 : hw_H, hw_p w33 a0 2 3 (.int (1 : Int32)) w34 ∧ hw_b (1 : Int32) ∧ (PR k7 n8 w34))))))))))))))))))))))
set_option maxHeartbeats 4000000 in
set_option maxRecDepth 100000 in
theorem sg_Se_resolve_0 (X : hw_X p m c cb_Se_resolve 3 s args (mw_Se_resolve) "ProofCourt$Search" g A) {K : Nat → Nat → Nat → List (Option Value) → List Value → hw_H → Prop} {PR : Nat → Nat → hw_H → Prop} (hK : ∀ (k n pc : Nat) (lv : List (Option Value)) (st : List Value) (w : hw_H), K k n pc lv st w → hw_J p l e R s m args below meth c Q 3 g A k n pc lv st w) (rt : ∀ {k n pc : Nat} {lv : List (Option Value)} {w : hw_H}, decode cb_Se_resolve pc = .ok (.return_, 1) → PR k n w → hw_J p l e R s m args below meth c Q 3 g A k n pc lv [] w) {a0 : Nat} {x1 : Int32} (vc : vc_Se_resolve_0 l g R K PR k n a0 x1 w) : hw_J p l e R s m args below meth c Q 3 g A k n 0 [some (.ref a0), some (.int x1), none] [] w := by
  unfold vc_Se_resolve_0 at vc
  refine hw_aload_n X (Or.inr ⟨_, rfl⟩) dd_Se_resolve_0 rfl ?_
  refine hw_iload_n X dd_Se_resolve_1 rfl ?_
  obtain ⟨hob, rm9, po9, hM9, hf9, hc9, vc⟩ := vc
  refine hw_callVi X (As := [.int x1]) (ye_Se_91 X) hM9 rfl hf9 hc9 hob (Nat.le_of_ble_eq_true rfl) rfl dd_Se_resolve_2 (fun x_4 w1 hp => ?_)
  replace vc := vc x_4 w1 hp
  refine hw_istore_n X dd_Se_resolve_5 (by decide) rfl ?_
  refine hw_aload_n X (Or.inr ⟨_, rfl⟩) dd_Se_resolve_6 rfl ?_
  refine hw_aload_n X (Or.inr ⟨_, rfl⟩) dd_Se_resolve_7 rfl ?_
  obtain ⟨x_5, h9, vc⟩ := vc
  refine hw_get X (fe_Se_56 X) h9 dd_Se_resolve_8 ?_
  refine hw_if_eq X (tgt := 26) dd_Se_resolve_11 rfl (fun hc => ?_) (fun hc => ?_)
  · replace vc := vc.1 hc
    exact hK _ _ _ _ _ _ vc
  · replace vc := vc.2 hc
    refine hw_aload_n X (Or.inr ⟨_, rfl⟩) dd_Se_resolve_14 rfl ?_
    refine hw_iload_n X dd_Se_resolve_15 rfl ?_
    obtain ⟨hob, rm9, po9, hM9, hf9, hc9, vc⟩ := vc
    refine hw_callVi X (As := [.int x_4]) (ye_Se_94 X) hM9 rfl hf9 hc9 hob (Nat.le_of_ble_eq_true rfl) rfl dd_Se_resolve_16 (fun x_9 w6 hp => ?_)
    replace vc := vc x_9 w6 hp
    refine hw_if_eq X (tgt := 26) dd_Se_resolve_19 rfl (fun hc => ?_) (fun hc => ?_)
    · replace vc := vc.1 hc
      exact hK _ _ _ _ _ _ vc
    · replace vc := vc.2 hc
      refine hw_iconst X (v := 1) dd_Se_resolve_22 (by decide) ?_
      refine hw_goto X (tgt := 27) dd_Se_resolve_23 rfl ?_
      obtain ⟨w10, h9, h8, vc⟩ := vc
      refine hw_put X (fp_Se_56 X) (hw_b_nar h8) (hw_b_fit h8) h9 dd_Se_resolve_27 ?_
      refine hw_iload_n X dd_Se_resolve_30 rfl ?_
      refine hw_if_eq X (tgt := 53) dd_Se_resolve_31 rfl (fun hc => ?_) (fun hc => ?_)
      · replace vc := vc.1 hc
        refine hw_aload_n X (Or.inr ⟨_, rfl⟩) dd_Se_resolve_53 rfl ?_
        refine hw_iload_n X dd_Se_resolve_54 rfl ?_
        refine hw_if_ne X (tgt := 62) dd_Se_resolve_55 rfl (fun hc => ?_) (fun hc => ?_)
        · replace vc := vc.1 hc
          refine hw_iconst X (v := 0) dd_Se_resolve_62 (by decide) ?_
          obtain ⟨w11, h9, h8, vc⟩ := vc
          refine hw_put X (fp_Se_53 X) (hw_b_nar h8) (hw_b_fit h8) h9 dd_Se_resolve_63 ?_
          refine hw_aload_n X (Or.inr ⟨_, rfl⟩) dd_Se_resolve_66 rfl ?_
          refine hw_iconst X (v := 1) dd_Se_resolve_67 (by decide) ?_
          obtain ⟨w12, h9, h8, vc⟩ := vc
          refine hw_put X (fp_Se_46 X) (hw_b_nar h8) (hw_b_fit h8) h9 dd_Se_resolve_68 ?_
          exact rt dd_Se_resolve_71 vc
        · replace vc := vc.2 hc
          refine hw_iconst X (v := 1) dd_Se_resolve_58 (by decide) ?_
          refine hw_goto X (tgt := 63) dd_Se_resolve_59 rfl ?_
          obtain ⟨w13, h9, h8, vc⟩ := vc
          refine hw_put X (fp_Se_53 X) (hw_b_nar h8) (hw_b_fit h8) h9 dd_Se_resolve_63 ?_
          refine hw_aload_n X (Or.inr ⟨_, rfl⟩) dd_Se_resolve_66 rfl ?_
          refine hw_iconst X (v := 1) dd_Se_resolve_67 (by decide) ?_
          obtain ⟨w14, h9, h8, vc⟩ := vc
          refine hw_put X (fp_Se_46 X) (hw_b_nar h8) (hw_b_fit h8) h9 dd_Se_resolve_68 ?_
          exact rt dd_Se_resolve_71 vc
      · replace vc := vc.2 hc
        refine hw_aload_n X (Or.inr ⟨_, rfl⟩) dd_Se_resolve_34 rfl ?_
        obtain ⟨x_15, h9, vc⟩ := vc
        refine hw_get X (fe_Se_65 X) h9 dd_Se_resolve_35 ?_
        refine hw_if_eq X (tgt := 53) dd_Se_resolve_38 rfl (fun hc => ?_) (fun hc => ?_)
        · replace vc := vc.1 hc
          refine hw_aload_n X (Or.inr ⟨_, rfl⟩) dd_Se_resolve_53 rfl ?_
          refine hw_iload_n X dd_Se_resolve_54 rfl ?_
          refine hw_if_ne X (tgt := 62) dd_Se_resolve_55 rfl (fun hc => ?_) (fun hc => ?_)
          · replace vc := vc.1 hc
            refine hw_iconst X (v := 0) dd_Se_resolve_62 (by decide) ?_
            obtain ⟨w16, h9, h8, vc⟩ := vc
            refine hw_put X (fp_Se_53 X) (hw_b_nar h8) (hw_b_fit h8) h9 dd_Se_resolve_63 ?_
            refine hw_aload_n X (Or.inr ⟨_, rfl⟩) dd_Se_resolve_66 rfl ?_
            refine hw_iconst X (v := 1) dd_Se_resolve_67 (by decide) ?_
            obtain ⟨w17, h9, h8, vc⟩ := vc
            refine hw_put X (fp_Se_46 X) (hw_b_nar h8) (hw_b_fit h8) h9 dd_Se_resolve_68 ?_
            exact rt dd_Se_resolve_71 vc
          · replace vc := vc.2 hc
            refine hw_iconst X (v := 1) dd_Se_resolve_58 (by decide) ?_
            refine hw_goto X (tgt := 63) dd_Se_resolve_59 rfl ?_
            obtain ⟨w18, h9, h8, vc⟩ := vc
            refine hw_put X (fp_Se_53 X) (hw_b_nar h8) (hw_b_fit h8) h9 dd_Se_resolve_63 ?_
            refine hw_aload_n X (Or.inr ⟨_, rfl⟩) dd_Se_resolve_66 rfl ?_
            refine hw_iconst X (v := 1) dd_Se_resolve_67 (by decide) ?_
            obtain ⟨w19, h9, h8, vc⟩ := vc
            refine hw_put X (fp_Se_46 X) (hw_b_nar h8) (hw_b_fit h8) h9 dd_Se_resolve_68 ?_
            exact rt dd_Se_resolve_71 vc
        · replace vc := vc.2 hc
          refine hw_aload_n X (Or.inr ⟨_, rfl⟩) dd_Se_resolve_41 rfl ?_
          obtain ⟨x_20, h9, vc⟩ := vc
          refine hw_get X (fe_Se_33 X) h9 dd_Se_resolve_42 ?_
          refine hw_aload_n X (Or.inr ⟨_, rfl⟩) dd_Se_resolve_45 rfl ?_
          obtain ⟨b_21, h9, vc⟩ := vc
          refine hw_get X (fe_Se_9 X) h9 dd_Se_resolve_46 ?_
          obtain ⟨x_22, h9, vc⟩ := vc
          refine hw_alen X h9 dd_Se_resolve_49 ?_
          refine hw_icmp_lt X (tgt := 72) dd_Se_resolve_50 rfl (fun hc => ?_) (fun hc => ?_)
          · replace vc := vc.1 hc
            refine hw_aload_n X (Or.inr ⟨_, rfl⟩) dd_Se_resolve_72 rfl ?_
            refine hw_iload_n X dd_Se_resolve_73 rfl ?_
            obtain ⟨hob, rm9, po9, hM9, hf9, hc9, vc⟩ := vc
            refine hw_callVv X (As := [.int x_4]) (ye_Se_98 X) hM9 rfl hf9 hc9 hob (Nat.le_of_ble_eq_true rfl) rfl dd_Se_resolve_74 (fun w23 hp => ?_)
            replace vc := vc w23 hp
            refine hw_aload_n X (Or.inr ⟨_, rfl⟩) dd_Se_resolve_77 rfl ?_
            obtain ⟨b_26, h9, vc⟩ := vc
            refine hw_get X (fe_Se_9 X) h9 dd_Se_resolve_78 ?_
            refine hw_aload_n X (Or.inr ⟨_, rfl⟩) dd_Se_resolve_81 rfl ?_
            obtain ⟨x_27, h9, vc⟩ := vc
            refine hw_get X (fe_Se_33 X) h9 dd_Se_resolve_82 ?_
            refine hw_iload_n X dd_Se_resolve_85 rfl ?_
            obtain ⟨w28, h9, vc⟩ := vc
            refine hw_iast X h9 dd_Se_resolve_86 ?_
            refine hw_aload_n X (Or.inr ⟨_, rfl⟩) dd_Se_resolve_87 rfl ?_
            refine hw_dup X rfl dd_Se_resolve_88 ?_
            obtain ⟨x_29, h9, vc⟩ := vc
            refine hw_get X (fe_Se_33 X) h9 dd_Se_resolve_89 ?_
            refine hw_iconst X (v := 1) dd_Se_resolve_92 (by decide) ?_
            refine hw_iadd X dd_Se_resolve_93 ?_
            obtain ⟨w30, h9, vc⟩ := vc
            refine hw_put X (fp_Se_33 X) rfl rfl h9 dd_Se_resolve_94 ?_
            exact rt dd_Se_resolve_97 vc
          · replace vc := vc.2 hc
            refine hw_aload_n X (Or.inr ⟨_, rfl⟩) dd_Se_resolve_53 rfl ?_
            refine hw_iload_n X dd_Se_resolve_54 rfl ?_
            refine hw_if_ne X (tgt := 62) dd_Se_resolve_55 rfl (fun hc => ?_) (fun hc => ?_)
            · replace vc := vc.1 hc
              refine hw_iconst X (v := 0) dd_Se_resolve_62 (by decide) ?_
              obtain ⟨w31, h9, h8, vc⟩ := vc
              refine hw_put X (fp_Se_53 X) (hw_b_nar h8) (hw_b_fit h8) h9 dd_Se_resolve_63 ?_
              refine hw_aload_n X (Or.inr ⟨_, rfl⟩) dd_Se_resolve_66 rfl ?_
              refine hw_iconst X (v := 1) dd_Se_resolve_67 (by decide) ?_
              obtain ⟨w32, h9, h8, vc⟩ := vc
              refine hw_put X (fp_Se_46 X) (hw_b_nar h8) (hw_b_fit h8) h9 dd_Se_resolve_68 ?_
              exact rt dd_Se_resolve_71 vc
            · replace vc := vc.2 hc
              refine hw_iconst X (v := 1) dd_Se_resolve_58 (by decide) ?_
              refine hw_goto X (tgt := 63) dd_Se_resolve_59 rfl ?_
              obtain ⟨w33, h9, h8, vc⟩ := vc
              refine hw_put X (fp_Se_53 X) (hw_b_nar h8) (hw_b_fit h8) h9 dd_Se_resolve_63 ?_
              refine hw_aload_n X (Or.inr ⟨_, rfl⟩) dd_Se_resolve_66 rfl ?_
              refine hw_iconst X (v := 1) dd_Se_resolve_67 (by decide) ?_
              obtain ⟨w34, h9, h8, vc⟩ := vc
              refine hw_put X (fp_Se_46 X) (hw_b_nar h8) (hw_b_fit h8) h9 dd_Se_resolve_68 ?_
              exact rt dd_Se_resolve_71 vc
def vc_Se_resolve_26 (l : Launch) (g : hw_G) (R : Room) (K : Nat → Nat → Nat → List (Option Value) → List Value → hw_H → Prop) (PR : Nat → Nat → hw_H → Prop) (k n : Nat) (a0 : Nat) (x1 : Int32) (x2 : Int32) (b0 : Nat) (w : hw_H) : Prop := ∃ w1 : hw_H, hw_p w b0 2 6 (.int (0 : Int32)) w1 ∧ hw_b (0 : Int32) ∧ (((x2 = 0) → (((¬ x2 = 0) → (∃ w2 : hw_H, hw_p w1 a0 2 5 (.int (0 : Int32)) w2 ∧ hw_b (0 : Int32) ∧ (∃ w3 : hw_H, hw_p w2 a0 2 3 (.int (1 : Int32)) w3 ∧ hw_b (1 : Int32) ∧ (PR k n w3)))) ∧ ((x2 = 0) → (∃ w4 : hw_H, hw_p w1 a0 2 5 (.int (1 : Int32)) w4 ∧ hw_b (1 : Int32) ∧ (∃ w5 : hw_H, hw_p w4 a0 2 3 (.int (1 : Int32)) w5 ∧ hw_b (1 : Int32) ∧ (PR k n w5)))))) ∧ ((¬ x2 = 0) → (∃ x_6 : Int32, hw_g w1 a0 2 12 (.int x_6) ∧ (((x_6 = 0) → (((¬ x2 = 0) → (∃ w7 : hw_H, hw_p w1 a0 2 5 (.int (0 : Int32)) w7 ∧ hw_b (0 : Int32) ∧ (∃ w8 : hw_H, hw_p w7 a0 2 3 (.int (1 : Int32)) w8 ∧ hw_b (1 : Int32) ∧ (PR k n w8)))) ∧ ((x2 = 0) → (∃ w9 : hw_H, hw_p w1 a0 2 5 (.int (1 : Int32)) w9 ∧ hw_b (1 : Int32) ∧ (∃ w10 : hw_H, hw_p w9 a0 2 3 (.int (1 : Int32)) w10 ∧ hw_b (1 : Int32) ∧ (PR k n w10)))))) ∧ ((¬ x_6 = 0) → (∃ x_11 : Int32, hw_g w1 a0 2 1 (.int x_11) ∧ (∃ b_12 : Nat, hw_g w1 a0 2 0 (.ref b_12) ∧ (∃ x_13 : Int32, hw_al g w1 b_12 x_13 ∧ (((x_11 < x_13) → (hw_o w1 a0 "ProofCourt$Search" ∧ hw_cv l g R k n ym_Se_jumpBack (mw_Se_jumpBack) 4 [.ref a0, .int x2] w1 (fun (k15 n16 : Nat) (w14 : hw_H) => ∃ b_17 : Nat, hw_g w14 a0 2 0 (.ref b_17) ∧ (∃ x_18 : Int32, hw_g w14 a0 2 1 (.int x_18) ∧ (∃ w19 : hw_H, hw_as g 0 w14 b_17 x_18 x2 w19 ∧ (∃ x_20 : Int32, hw_g w19 a0 2 1 (.int x_20) ∧ (∃ w21 : hw_H, hw_p w19 a0 2 1 (.int (x_20 + (1 : Int32))) w21 ∧ (PR k15 n16 w21)))))))) ∧ ((¬ x_11 < x_13) → (((¬ x2 = 0) → (∃ w22 : hw_H, hw_p w1 a0 2 5 (.int (0 : Int32)) w22 ∧ hw_b (0 : Int32) ∧ (∃ w23 : hw_H, hw_p w22 a0 2 3 (.int (1 : Int32)) w23 ∧ hw_b (1 : Int32) ∧ (PR k n w23)))) ∧ ((x2 = 0) → (∃ w24 : hw_H, hw_p w1 a0 2 5 (.int (1 : Int32)) w24 ∧ hw_b (1 : Int32) ∧ (∃ w25 : hw_H, hw_p w24 a0 2 3 (.int (1 : Int32)) w25 ∧ hw_b (1 : Int32) ∧ (PR k n w25)))))))))))))))
set_option maxHeartbeats 4000000 in
set_option maxRecDepth 100000 in
theorem sg_Se_resolve_26 (X : hw_X p m c cb_Se_resolve 3 s args (mw_Se_resolve) "ProofCourt$Search" g A) {K : Nat → Nat → Nat → List (Option Value) → List Value → hw_H → Prop} {PR : Nat → Nat → hw_H → Prop} (hK : ∀ (k n pc : Nat) (lv : List (Option Value)) (st : List Value) (w : hw_H), K k n pc lv st w → hw_J p l e R s m args below meth c Q 3 g A k n pc lv st w) (rt : ∀ {k n pc : Nat} {lv : List (Option Value)} {w : hw_H}, decode cb_Se_resolve pc = .ok (.return_, 1) → PR k n w → hw_J p l e R s m args below meth c Q 3 g A k n pc lv [] w) {a0 : Nat} {x1 : Int32} {x2 : Int32} {b0 : Nat} (vc : vc_Se_resolve_26 l g R K PR k n a0 x1 x2 b0 w) : hw_J p l e R s m args below meth c Q 3 g A k n 26 [some (.ref a0), some (.int x1), some (.int x2)] [.ref b0] w := by
  unfold vc_Se_resolve_26 at vc
  refine hw_iconst X (v := 0) dd_Se_resolve_26 (by decide) ?_
  obtain ⟨w1, h9, h8, vc⟩ := vc
  refine hw_put X (fp_Se_56 X) (hw_b_nar h8) (hw_b_fit h8) h9 dd_Se_resolve_27 ?_
  refine hw_iload_n X dd_Se_resolve_30 rfl ?_
  refine hw_if_eq X (tgt := 53) dd_Se_resolve_31 rfl (fun hc => ?_) (fun hc => ?_)
  · replace vc := vc.1 hc
    refine hw_aload_n X (Or.inr ⟨_, rfl⟩) dd_Se_resolve_53 rfl ?_
    refine hw_iload_n X dd_Se_resolve_54 rfl ?_
    refine hw_if_ne X (tgt := 62) dd_Se_resolve_55 rfl (fun hc => ?_) (fun hc => ?_)
    · replace vc := vc.1 hc
      refine hw_iconst X (v := 0) dd_Se_resolve_62 (by decide) ?_
      obtain ⟨w2, h9, h8, vc⟩ := vc
      refine hw_put X (fp_Se_53 X) (hw_b_nar h8) (hw_b_fit h8) h9 dd_Se_resolve_63 ?_
      refine hw_aload_n X (Or.inr ⟨_, rfl⟩) dd_Se_resolve_66 rfl ?_
      refine hw_iconst X (v := 1) dd_Se_resolve_67 (by decide) ?_
      obtain ⟨w3, h9, h8, vc⟩ := vc
      refine hw_put X (fp_Se_46 X) (hw_b_nar h8) (hw_b_fit h8) h9 dd_Se_resolve_68 ?_
      exact rt dd_Se_resolve_71 vc
    · replace vc := vc.2 hc
      refine hw_iconst X (v := 1) dd_Se_resolve_58 (by decide) ?_
      refine hw_goto X (tgt := 63) dd_Se_resolve_59 rfl ?_
      obtain ⟨w4, h9, h8, vc⟩ := vc
      refine hw_put X (fp_Se_53 X) (hw_b_nar h8) (hw_b_fit h8) h9 dd_Se_resolve_63 ?_
      refine hw_aload_n X (Or.inr ⟨_, rfl⟩) dd_Se_resolve_66 rfl ?_
      refine hw_iconst X (v := 1) dd_Se_resolve_67 (by decide) ?_
      obtain ⟨w5, h9, h8, vc⟩ := vc
      refine hw_put X (fp_Se_46 X) (hw_b_nar h8) (hw_b_fit h8) h9 dd_Se_resolve_68 ?_
      exact rt dd_Se_resolve_71 vc
  · replace vc := vc.2 hc
    refine hw_aload_n X (Or.inr ⟨_, rfl⟩) dd_Se_resolve_34 rfl ?_
    obtain ⟨x_6, h9, vc⟩ := vc
    refine hw_get X (fe_Se_65 X) h9 dd_Se_resolve_35 ?_
    refine hw_if_eq X (tgt := 53) dd_Se_resolve_38 rfl (fun hc => ?_) (fun hc => ?_)
    · replace vc := vc.1 hc
      refine hw_aload_n X (Or.inr ⟨_, rfl⟩) dd_Se_resolve_53 rfl ?_
      refine hw_iload_n X dd_Se_resolve_54 rfl ?_
      refine hw_if_ne X (tgt := 62) dd_Se_resolve_55 rfl (fun hc => ?_) (fun hc => ?_)
      · replace vc := vc.1 hc
        refine hw_iconst X (v := 0) dd_Se_resolve_62 (by decide) ?_
        obtain ⟨w7, h9, h8, vc⟩ := vc
        refine hw_put X (fp_Se_53 X) (hw_b_nar h8) (hw_b_fit h8) h9 dd_Se_resolve_63 ?_
        refine hw_aload_n X (Or.inr ⟨_, rfl⟩) dd_Se_resolve_66 rfl ?_
        refine hw_iconst X (v := 1) dd_Se_resolve_67 (by decide) ?_
        obtain ⟨w8, h9, h8, vc⟩ := vc
        refine hw_put X (fp_Se_46 X) (hw_b_nar h8) (hw_b_fit h8) h9 dd_Se_resolve_68 ?_
        exact rt dd_Se_resolve_71 vc
      · replace vc := vc.2 hc
        refine hw_iconst X (v := 1) dd_Se_resolve_58 (by decide) ?_
        refine hw_goto X (tgt := 63) dd_Se_resolve_59 rfl ?_
        obtain ⟨w9, h9, h8, vc⟩ := vc
        refine hw_put X (fp_Se_53 X) (hw_b_nar h8) (hw_b_fit h8) h9 dd_Se_resolve_63 ?_
        refine hw_aload_n X (Or.inr ⟨_, rfl⟩) dd_Se_resolve_66 rfl ?_
        refine hw_iconst X (v := 1) dd_Se_resolve_67 (by decide) ?_
        obtain ⟨w10, h9, h8, vc⟩ := vc
        refine hw_put X (fp_Se_46 X) (hw_b_nar h8) (hw_b_fit h8) h9 dd_Se_resolve_68 ?_
        exact rt dd_Se_resolve_71 vc
    · replace vc := vc.2 hc
      refine hw_aload_n X (Or.inr ⟨_, rfl⟩) dd_Se_resolve_41 rfl ?_
      obtain ⟨x_11, h9, vc⟩ := vc
      refine hw_get X (fe_Se_33 X) h9 dd_Se_resolve_42 ?_
      refine hw_aload_n X (Or.inr ⟨_, rfl⟩) dd_Se_resolve_45 rfl ?_
      obtain ⟨b_12, h9, vc⟩ := vc
      refine hw_get X (fe_Se_9 X) h9 dd_Se_resolve_46 ?_
      obtain ⟨x_13, h9, vc⟩ := vc
      refine hw_alen X h9 dd_Se_resolve_49 ?_
      refine hw_icmp_lt X (tgt := 72) dd_Se_resolve_50 rfl (fun hc => ?_) (fun hc => ?_)
      · replace vc := vc.1 hc
        refine hw_aload_n X (Or.inr ⟨_, rfl⟩) dd_Se_resolve_72 rfl ?_
        refine hw_iload_n X dd_Se_resolve_73 rfl ?_
        obtain ⟨hob, rm9, po9, hM9, hf9, hc9, vc⟩ := vc
        refine hw_callVv X (As := [.int x2]) (ye_Se_98 X) hM9 rfl hf9 hc9 hob (Nat.le_of_ble_eq_true rfl) rfl dd_Se_resolve_74 (fun w14 hp => ?_)
        replace vc := vc w14 hp
        refine hw_aload_n X (Or.inr ⟨_, rfl⟩) dd_Se_resolve_77 rfl ?_
        obtain ⟨b_17, h9, vc⟩ := vc
        refine hw_get X (fe_Se_9 X) h9 dd_Se_resolve_78 ?_
        refine hw_aload_n X (Or.inr ⟨_, rfl⟩) dd_Se_resolve_81 rfl ?_
        obtain ⟨x_18, h9, vc⟩ := vc
        refine hw_get X (fe_Se_33 X) h9 dd_Se_resolve_82 ?_
        refine hw_iload_n X dd_Se_resolve_85 rfl ?_
        obtain ⟨w19, h9, vc⟩ := vc
        refine hw_iast X h9 dd_Se_resolve_86 ?_
        refine hw_aload_n X (Or.inr ⟨_, rfl⟩) dd_Se_resolve_87 rfl ?_
        refine hw_dup X rfl dd_Se_resolve_88 ?_
        obtain ⟨x_20, h9, vc⟩ := vc
        refine hw_get X (fe_Se_33 X) h9 dd_Se_resolve_89 ?_
        refine hw_iconst X (v := 1) dd_Se_resolve_92 (by decide) ?_
        refine hw_iadd X dd_Se_resolve_93 ?_
        obtain ⟨w21, h9, vc⟩ := vc
        refine hw_put X (fp_Se_33 X) rfl rfl h9 dd_Se_resolve_94 ?_
        exact rt dd_Se_resolve_97 vc
      · replace vc := vc.2 hc
        refine hw_aload_n X (Or.inr ⟨_, rfl⟩) dd_Se_resolve_53 rfl ?_
        refine hw_iload_n X dd_Se_resolve_54 rfl ?_
        refine hw_if_ne X (tgt := 62) dd_Se_resolve_55 rfl (fun hc => ?_) (fun hc => ?_)
        · replace vc := vc.1 hc
          refine hw_iconst X (v := 0) dd_Se_resolve_62 (by decide) ?_
          obtain ⟨w22, h9, h8, vc⟩ := vc
          refine hw_put X (fp_Se_53 X) (hw_b_nar h8) (hw_b_fit h8) h9 dd_Se_resolve_63 ?_
          refine hw_aload_n X (Or.inr ⟨_, rfl⟩) dd_Se_resolve_66 rfl ?_
          refine hw_iconst X (v := 1) dd_Se_resolve_67 (by decide) ?_
          obtain ⟨w23, h9, h8, vc⟩ := vc
          refine hw_put X (fp_Se_46 X) (hw_b_nar h8) (hw_b_fit h8) h9 dd_Se_resolve_68 ?_
          exact rt dd_Se_resolve_71 vc
        · replace vc := vc.2 hc
          refine hw_iconst X (v := 1) dd_Se_resolve_58 (by decide) ?_
          refine hw_goto X (tgt := 63) dd_Se_resolve_59 rfl ?_
          obtain ⟨w24, h9, h8, vc⟩ := vc
          refine hw_put X (fp_Se_53 X) (hw_b_nar h8) (hw_b_fit h8) h9 dd_Se_resolve_63 ?_
          refine hw_aload_n X (Or.inr ⟨_, rfl⟩) dd_Se_resolve_66 rfl ?_
          refine hw_iconst X (v := 1) dd_Se_resolve_67 (by decide) ?_
          obtain ⟨w25, h9, h8, vc⟩ := vc
          refine hw_put X (fp_Se_46 X) (hw_b_nar h8) (hw_b_fit h8) h9 dd_Se_resolve_68 ?_
          exact rt dd_Se_resolve_71 vc
end
section
variable {p : Program} {l : Launch} {e : Env} {R : Room} {s : State} {m : MethodId} {args : Array Value} {below : List Frame} {meth : Method} {c : Code} {Q : State → Prop} {g : hw_G} {A : Nat → Prop} {k n : Nat} {w : hw_H}
def vc_Se_learn_0 (l : Launch) (g : hw_G) (R : Room) (K : Nat → Nat → Nat → List (Option Value) → List Value → hw_H → Prop) (PR : Nat → Nat → Int32 → hw_H → Prop) (k n : Nat) (a0 : Nat) (x1 : Int32) (w : hw_H) : Prop := ∃ b_1 : Nat, hw_g w a0 2 13 (.ref b_1) ∧ (∃ w2 : hw_H, hw_as g 0 w b_1 (0 : Int32) x1 w2 ∧ (∃ w3 : hw_H, hw_p w2 a0 2 14 (.int (1 : Int32)) w3 ∧ (∃ b_4 : Nat, hw_g w3 a0 2 0 (.ref b_4) ∧ (∃ x_5 : Int32, hw_ai g 0 w3 b_4 x1 x_5 ∧ (hw_ci l g R k n ym_Co_opposites (mw_Co_opposites) 1 [.int x_5] w3 (fun (k7 n8 : Nat) (x_9 : Int32) (w6 : hw_H) => ∃ x_10 : Int32, hw_g w6 a0 2 10 (.int x_10) ∧ (∀ y11 : Int32, y11 = (x_10 - (1 : Int32)) → (K k7 n8 29 [some (.ref a0), some (.int x1), some (.int x_9), some (.int y11), none] [] w6))))))))
set_option maxHeartbeats 4000000 in
set_option maxRecDepth 100000 in
theorem sg_Se_learn_0 (X : hw_X p m c cb_Se_learn 5 s args (mw_Se_learn) "ProofCourt$Search" g A) {K : Nat → Nat → Nat → List (Option Value) → List Value → hw_H → Prop} {PR : Nat → Nat → Int32 → hw_H → Prop} (hK : ∀ (k n pc : Nat) (lv : List (Option Value)) (st : List Value) (w : hw_H), K k n pc lv st w → hw_J p l e R s m args below meth c Q 5 g A k n pc lv st w) (rt : ∀ {k n pc : Nat} {lv : List (Option Value)} {x : Int32} {w : hw_H}, decode cb_Se_learn pc = .ok (.ireturn, 1) → PR k n x w → hw_J p l e R s m args below meth c Q 5 g A k n pc lv [.int x] w) {a0 : Nat} {x1 : Int32} (vc : vc_Se_learn_0 l g R K PR k n a0 x1 w) : hw_J p l e R s m args below meth c Q 5 g A k n 0 [some (.ref a0), some (.int x1), none, none, none] [] w := by
  unfold vc_Se_learn_0 at vc
  refine hw_aload_n X (Or.inr ⟨_, rfl⟩) dd_Se_learn_0 rfl ?_
  obtain ⟨b_1, h9, vc⟩ := vc
  refine hw_get X (fe_Se_24 X) h9 dd_Se_learn_1 ?_
  refine hw_iconst X (v := 0) dd_Se_learn_4 (by decide) ?_
  refine hw_iload_n X dd_Se_learn_5 rfl ?_
  obtain ⟨w2, h9, vc⟩ := vc
  refine hw_iast X h9 dd_Se_learn_6 ?_
  refine hw_aload_n X (Or.inr ⟨_, rfl⟩) dd_Se_learn_7 rfl ?_
  refine hw_iconst X (v := 1) dd_Se_learn_8 (by decide) ?_
  obtain ⟨w3, h9, vc⟩ := vc
  refine hw_put X (fp_Se_101 X) rfl rfl h9 dd_Se_learn_9 ?_
  refine hw_aload_n X (Or.inr ⟨_, rfl⟩) dd_Se_learn_12 rfl ?_
  obtain ⟨b_4, h9, vc⟩ := vc
  refine hw_get X (fe_Se_9 X) h9 dd_Se_learn_13 ?_
  refine hw_iload_n X dd_Se_learn_16 rfl ?_
  obtain ⟨x_5, h9, vc⟩ := vc
  refine hw_iald X h9 dd_Se_learn_17 ?_
  obtain ⟨rm9, po9, hM9, hf9, hc9, vc⟩ := vc
  refine hw_callSi X (As := [.int x_5]) (ye_Se_104 X) hM9 rfl hf9 hc9 (Nat.le_of_ble_eq_true rfl) rfl dd_Se_learn_18 (fun x_9 w6 hp => ?_)
  replace vc := vc x_9 w6 hp
  refine hw_istore_n X dd_Se_learn_21 (by decide) rfl ?_
  refine hw_aload_n X (Or.inr ⟨_, rfl⟩) dd_Se_learn_22 rfl ?_
  obtain ⟨x_10, h9, vc⟩ := vc
  refine hw_get X (fe_Se_62 X) h9 dd_Se_learn_23 ?_
  refine hw_iconst X (v := 1) dd_Se_learn_26 (by decide) ?_
  refine hw_isub X dd_Se_learn_27 ?_
  refine hw_top (fun y11 ey11 => ?_)
  replace vc := vc y11 ey11
  refine hw_istore_n X dd_Se_learn_28 (by decide) rfl ?_
  exact hK _ _ _ _ _ _ vc
def vc_Se_learn_29 (l : Launch) (g : hw_G) (R : Room) (K : Nat → Nat → Nat → List (Option Value) → List Value → hw_H → Prop) (PR : Nat → Nat → Int32 → hw_H → Prop) (k n : Nat) (a0 : Nat) (x1 : Int32) (x2 : Int32) (x3 : Int32) (w : hw_H) : Prop := ((x3 < 0) → (hw_ci l g R k n ym_Co_opposites (mw_Co_opposites) 1 [.int x2] w (fun (k2 n3 : Nat) (x_4 : Int32) (w1 : hw_H) => PR k2 n3 x_4 w1))) ∧ ((¬ x3 < 0) → (∃ b_5 : Nat, hw_g w a0 2 8 (.ref b_5) ∧ (∃ x_6 : Int32, hw_ai g 0 w b_5 x3 x_6 ∧ ((((x2 &&& x_6) = 0) → (K k n 29 [some (.ref a0), some (.int x1), some (.int x2), some (.int (x3 + (-1))), none] [] w)) ∧ ((¬ (x2 &&& x_6) = 0) → (hw_o w a0 "ProofCourt$Search" ∧ hw_ci l g R k n ym_Se_isKept (mw_Se_isKept) 4 [.ref a0, .int x3, .int x2] w (fun (k8 n9 : Nat) (x_10 : Int32) (w7 : hw_H) => ((¬ x_10 = 0) → (K k8 n9 29 [some (.ref a0), some (.int x1), some (.int x2), some (.int (x3 + (-1))), none] [] w7)) ∧ ((x_10 = 0) → (∃ x_11 : Int32, hw_g w7 a0 2 14 (.int x_11) ∧ (∃ b_12 : Nat, hw_g w7 a0 2 13 (.ref b_12) ∧ (∃ x_13 : Int32, hw_al g w7 b_12 x_13 ∧ (((x_11 < x_13) → (∃ b_14 : Nat, hw_g w7 a0 2 9 (.ref b_14) ∧ (∃ x_15 : Int32, hw_ai g 0 w7 b_14 x3 x_15 ∧ (∃ b_16 : Nat, hw_g w7 a0 2 13 (.ref b_16) ∧ (∃ x_17 : Int32, hw_g w7 a0 2 14 (.int x_17) ∧ (∃ w18 : hw_H, hw_as g 0 w7 b_16 x_17 x_15 w18 ∧ (∃ x_19 : Int32, hw_g w18 a0 2 14 (.int x_19) ∧ (∃ w20 : hw_H, hw_p w18 a0 2 14 (.int (x_19 + (1 : Int32))) w20 ∧ (∃ b_21 : Nat, hw_g w20 a0 2 8 (.ref b_21) ∧ (∃ x_22 : Int32, hw_ai g 0 w20 b_21 x3 x_22 ∧ (∃ b_23 : Nat, hw_g w20 a0 2 0 (.ref b_23) ∧ (∃ x_24 : Int32, hw_ai g 0 w20 b_23 x_15 x_24 ∧ (∃ b_25 : Nat, hw_g w20 a0 2 8 (.ref b_25) ∧ (∃ x_26 : Int32, hw_ai g 0 w20 b_25 x3 x_26 ∧ (hw_ci l g R k8 n9 ym_Co_opposites (mw_Co_opposites) 1 [.int (x_24 &&& (x_26 ^^^ (-1 : Int32)))] w20 (fun (k28 n29 : Nat) (x_30 : Int32) (w27 : hw_H) => ∀ y31 : Int32, y31 = ((x2 &&& (x_22 ^^^ (-1 : Int32))) ||| x_30) → (K k28 n29 29 [some (.ref a0), some (.int x1), some (.int y31), some (.int (x3 + (-1))), none] [] w27))))))))))))))))) ∧ ((¬ x_11 < x_13) → (K k8 n9 29 [some (.ref a0), some (.int x1), some (.int x2), some (.int (x3 + (-1))), none] [] w7))))))))))))))
set_option maxHeartbeats 4000000 in
set_option maxRecDepth 100000 in
theorem sg_Se_learn_29 (X : hw_X p m c cb_Se_learn 5 s args (mw_Se_learn) "ProofCourt$Search" g A) {K : Nat → Nat → Nat → List (Option Value) → List Value → hw_H → Prop} {PR : Nat → Nat → Int32 → hw_H → Prop} (hK : ∀ (k n pc : Nat) (lv : List (Option Value)) (st : List Value) (w : hw_H), K k n pc lv st w → hw_J p l e R s m args below meth c Q 5 g A k n pc lv st w) (rt : ∀ {k n pc : Nat} {lv : List (Option Value)} {x : Int32} {w : hw_H}, decode cb_Se_learn pc = .ok (.ireturn, 1) → PR k n x w → hw_J p l e R s m args below meth c Q 5 g A k n pc lv [.int x] w) {a0 : Nat} {x1 : Int32} {x2 : Int32} {x3 : Int32} (vc : vc_Se_learn_29 l g R K PR k n a0 x1 x2 x3 w) : hw_J p l e R s m args below meth c Q 5 g A k n 29 [some (.ref a0), some (.int x1), some (.int x2), some (.int x3), none] [] w := by
  unfold vc_Se_learn_29 at vc
  refine hw_iload_n X dd_Se_learn_29 rfl ?_
  refine hw_if_lt X (tgt := 134) dd_Se_learn_30 rfl (fun hc => ?_) (fun hc => ?_)
  · replace vc := vc.1 hc
    refine hw_iload_n X dd_Se_learn_134 rfl ?_
    obtain ⟨rm9, po9, hM9, hf9, hc9, vc⟩ := vc
    refine hw_callSi X (As := [.int x2]) (ye_Se_104 X) hM9 rfl hf9 hc9 (Nat.le_of_ble_eq_true rfl) rfl dd_Se_learn_135 (fun x_4 w1 hp => ?_)
    replace vc := vc x_4 w1 hp
    exact rt dd_Se_learn_138 vc
  · replace vc := vc.2 hc
    refine hw_iload_n X dd_Se_learn_33 rfl ?_
    refine hw_aload_n X (Or.inr ⟨_, rfl⟩) dd_Se_learn_34 rfl ?_
    obtain ⟨b_5, h9, vc⟩ := vc
    refine hw_get X (fe_Se_15 X) h9 dd_Se_learn_35 ?_
    refine hw_iload_n X dd_Se_learn_38 rfl ?_
    obtain ⟨x_6, h9, vc⟩ := vc
    refine hw_iald X h9 dd_Se_learn_39 ?_
    refine hw_iand X dd_Se_learn_40 ?_
    refine hw_if_eq X (tgt := 128) dd_Se_learn_41 rfl (fun hc => ?_) (fun hc => ?_)
    · replace vc := vc.1 hc
      refine hw_iinc X (v := (x3 + (-1))) dd_Se_learn_128 rfl rfl (by decide) rfl ?_
      refine hw_goto X (tgt := 29) dd_Se_learn_131 rfl ?_
      exact hK _ _ _ _ _ _ vc
    · replace vc := vc.2 hc
      refine hw_aload_n X (Or.inr ⟨_, rfl⟩) dd_Se_learn_44 rfl ?_
      refine hw_iload_n X dd_Se_learn_45 rfl ?_
      refine hw_iload_n X dd_Se_learn_46 rfl ?_
      obtain ⟨hob, rm9, po9, hM9, hf9, hc9, vc⟩ := vc
      refine hw_callVi X (As := [.int x3, .int x2]) (ye_Se_107 X) hM9 rfl hf9 hc9 hob (Nat.le_of_ble_eq_true rfl) rfl dd_Se_learn_47 (fun x_10 w7 hp => ?_)
      replace vc := vc x_10 w7 hp
      refine hw_if_ne X (tgt := 128) dd_Se_learn_50 rfl (fun hc => ?_) (fun hc => ?_)
      · replace vc := vc.1 hc
        refine hw_iinc X (v := (x3 + (-1))) dd_Se_learn_128 rfl rfl (by decide) rfl ?_
        refine hw_goto X (tgt := 29) dd_Se_learn_131 rfl ?_
        exact hK _ _ _ _ _ _ vc
      · replace vc := vc.2 hc
        refine hw_aload_n X (Or.inr ⟨_, rfl⟩) dd_Se_learn_53 rfl ?_
        obtain ⟨x_11, h9, vc⟩ := vc
        refine hw_get X (fe_Se_101 X) h9 dd_Se_learn_54 ?_
        refine hw_aload_n X (Or.inr ⟨_, rfl⟩) dd_Se_learn_57 rfl ?_
        obtain ⟨b_12, h9, vc⟩ := vc
        refine hw_get X (fe_Se_24 X) h9 dd_Se_learn_58 ?_
        obtain ⟨x_13, h9, vc⟩ := vc
        refine hw_alen X h9 dd_Se_learn_61 ?_
        refine hw_icmp_lt X (tgt := 68) dd_Se_learn_62 rfl (fun hc => ?_) (fun hc => ?_)
        · replace vc := vc.1 hc
          refine hw_aload_n X (Or.inr ⟨_, rfl⟩) dd_Se_learn_68 rfl ?_
          obtain ⟨b_14, h9, vc⟩ := vc
          refine hw_get X (fe_Se_18 X) h9 dd_Se_learn_69 ?_
          refine hw_iload_n X dd_Se_learn_72 rfl ?_
          obtain ⟨x_15, h9, vc⟩ := vc
          refine hw_iald X h9 dd_Se_learn_73 ?_
          refine hw_istore X dd_Se_learn_74 (by decide) rfl ?_
          refine hw_aload_n X (Or.inr ⟨_, rfl⟩) dd_Se_learn_76 rfl ?_
          obtain ⟨b_16, h9, vc⟩ := vc
          refine hw_get X (fe_Se_24 X) h9 dd_Se_learn_77 ?_
          refine hw_aload_n X (Or.inr ⟨_, rfl⟩) dd_Se_learn_80 rfl ?_
          obtain ⟨x_17, h9, vc⟩ := vc
          refine hw_get X (fe_Se_101 X) h9 dd_Se_learn_81 ?_
          refine hw_iload X dd_Se_learn_84 rfl ?_
          obtain ⟨w18, h9, vc⟩ := vc
          refine hw_iast X h9 dd_Se_learn_86 ?_
          refine hw_aload_n X (Or.inr ⟨_, rfl⟩) dd_Se_learn_87 rfl ?_
          refine hw_dup X rfl dd_Se_learn_88 ?_
          obtain ⟨x_19, h9, vc⟩ := vc
          refine hw_get X (fe_Se_101 X) h9 dd_Se_learn_89 ?_
          refine hw_iconst X (v := 1) dd_Se_learn_92 (by decide) ?_
          refine hw_iadd X dd_Se_learn_93 ?_
          obtain ⟨w20, h9, vc⟩ := vc
          refine hw_put X (fp_Se_101 X) rfl rfl h9 dd_Se_learn_94 ?_
          refine hw_iload_n X dd_Se_learn_97 rfl ?_
          refine hw_aload_n X (Or.inr ⟨_, rfl⟩) dd_Se_learn_98 rfl ?_
          obtain ⟨b_21, h9, vc⟩ := vc
          refine hw_get X (fe_Se_15 X) h9 dd_Se_learn_99 ?_
          refine hw_iload_n X dd_Se_learn_102 rfl ?_
          obtain ⟨x_22, h9, vc⟩ := vc
          refine hw_iald X h9 dd_Se_learn_103 ?_
          refine hw_iconst X (v := -1) dd_Se_learn_104 (by decide) ?_
          refine hw_ixor X dd_Se_learn_105 ?_
          refine hw_iand X dd_Se_learn_106 ?_
          refine hw_aload_n X (Or.inr ⟨_, rfl⟩) dd_Se_learn_107 rfl ?_
          obtain ⟨b_23, h9, vc⟩ := vc
          refine hw_get X (fe_Se_9 X) h9 dd_Se_learn_108 ?_
          refine hw_iload X dd_Se_learn_111 rfl ?_
          obtain ⟨x_24, h9, vc⟩ := vc
          refine hw_iald X h9 dd_Se_learn_113 ?_
          refine hw_aload_n X (Or.inr ⟨_, rfl⟩) dd_Se_learn_114 rfl ?_
          obtain ⟨b_25, h9, vc⟩ := vc
          refine hw_get X (fe_Se_15 X) h9 dd_Se_learn_115 ?_
          refine hw_iload_n X dd_Se_learn_118 rfl ?_
          obtain ⟨x_26, h9, vc⟩ := vc
          refine hw_iald X h9 dd_Se_learn_119 ?_
          refine hw_iconst X (v := -1) dd_Se_learn_120 (by decide) ?_
          refine hw_ixor X dd_Se_learn_121 ?_
          refine hw_iand X dd_Se_learn_122 ?_
          obtain ⟨rm9, po9, hM9, hf9, hc9, vc⟩ := vc
          refine hw_callSi X (As := [.int (x_24 &&& (x_26 ^^^ (-1 : Int32)))]) (ye_Se_104 X) hM9 rfl hf9 hc9 (Nat.le_of_ble_eq_true rfl) rfl dd_Se_learn_123 (fun x_30 w27 hp => ?_)
          replace vc := vc x_30 w27 hp
          refine hw_ior X dd_Se_learn_126 ?_
          refine hw_top (fun y31 ey31 => ?_)
          replace vc := vc y31 ey31
          refine hw_istore_n X dd_Se_learn_127 (by decide) rfl ?_
          refine hw_iinc X (v := (x3 + (-1))) dd_Se_learn_128 rfl rfl (by decide) rfl ?_
          refine hw_goto X (tgt := 29) dd_Se_learn_131 rfl ?_
          exact hw_drop (lv9 := [some (.ref a0), some (.int x1), some (.int y31), some (.int (x3 + (-1))), none]) (⟨rfl, ⟨rfl, ⟨rfl, ⟨rfl, ⟨trivial, trivial⟩⟩⟩⟩⟩) (hK _ _ _ _ _ _ vc)
        · replace vc := vc.2 hc
          refine hw_goto X (tgt := 128) dd_Se_learn_65 rfl ?_
          refine hw_iinc X (v := (x3 + (-1))) dd_Se_learn_128 rfl rfl (by decide) rfl ?_
          refine hw_goto X (tgt := 29) dd_Se_learn_131 rfl ?_
          exact hK _ _ _ _ _ _ vc
end
section
variable {p : Program} {l : Launch} {e : Env} {R : Room} {s : State} {m : MethodId} {args : Array Value} {below : List Frame} {meth : Method} {c : Code} {Q : State → Prop} {g : hw_G} {A : Nat → Prop} {k n : Nat} {w : hw_H}
def vc_Se_isKept_0 (l : Launch) (g : hw_G) (R : Room) (K : Nat → Nat → Nat → List (Option Value) → List Value → hw_H → Prop) (PR : Nat → Nat → Int32 → hw_H → Prop) (k n : Nat) (a0 : Nat) (x1 : Int32) (x2 : Int32) (w : hw_H) : Prop := ∃ b_1 : Nat, hw_g w a0 2 9 (.ref b_1) ∧ (∃ x_2 : Int32, hw_ai g 0 w b_1 x1 x_2 ∧ (((¬ x_2 = (-1 : Int32)) → (∃ x_3 : Int32, hw_g w a0 2 12 (.int x_3) ∧ (((x_3 = 0) → (PR k n (0 : Int32) w)) ∧ ((¬ x_3 = 0) → (∃ b_4 : Nat, hw_g w a0 2 11 (.ref b_4) ∧ (∃ x_5 : Int32, hw_ai g 0 w b_4 (1 : Int32) x_5 ∧ (∃ b_6 : Nat, hw_g w a0 2 8 (.ref b_6) ∧ (∃ x_7 : Int32, hw_ai g 0 w b_6 x1 x_7 ∧ ((((x_5 &&& x_7) = 0) → (∃ b_8 : Nat, hw_g w a0 2 11 (.ref b_8) ∧ (∃ x_9 : Int32, hw_g w a0 2 12 (.int x_9) ∧ (∃ x_10 : Int32, hw_ai g 0 w b_8 x_9 x_10 ∧ (∀ y11 : Int32, y11 = (x2 &&& (x_10 ^^^ (-1 : Int32))) → (∃ b_12 : Nat, hw_g w a0 2 11 (.ref b_12) ∧ (∃ x_13 : Int32, hw_g w a0 2 12 (.int x_13) ∧ (∃ x_14 : Int32, hw_ai g 0 w b_12 x_13 x_14 ∧ (∃ b_15 : Nat, hw_g w a0 2 8 (.ref b_15) ∧ (∃ x_16 : Int32, hw_ai g 0 w b_15 x1 x_16 ∧ (((¬ (x_14 &&& x_16) = 0) → (PR k n (1 : Int32) w)) ∧ (((x_14 &&& x_16) = 0) → (∃ b_17 : Nat, hw_g w a0 2 8 (.ref b_17) ∧ (∃ x_18 : Int32, hw_ai g 0 w b_17 x1 x_18 ∧ (((¬ y11 = x_18) → (PR k n (0 : Int32) w)) ∧ ((y11 = x_18) → (PR k n (1 : Int32) w))))))))))))))))) ∧ ((¬ (x_5 &&& x_7) = 0) → (PR k n (0 : Int32) w))))))))))) ∧ ((x_2 = (-1 : Int32)) → (PR k n (1 : Int32) w))))
set_option maxHeartbeats 4000000 in
set_option maxRecDepth 100000 in
theorem sg_Se_isKept_0 (X : hw_X p m c cb_Se_isKept 4 s args (mw_Se_isKept) "ProofCourt$Search" g A) {K : Nat → Nat → Nat → List (Option Value) → List Value → hw_H → Prop} {PR : Nat → Nat → Int32 → hw_H → Prop} (hK : ∀ (k n pc : Nat) (lv : List (Option Value)) (st : List Value) (w : hw_H), K k n pc lv st w → hw_J p l e R s m args below meth c Q 4 g A k n pc lv st w) (rt : ∀ {k n pc : Nat} {lv : List (Option Value)} {x : Int32} {w : hw_H}, decode cb_Se_isKept pc = .ok (.ireturn, 1) → PR k n x w → hw_J p l e R s m args below meth c Q 4 g A k n pc lv [.int x] w) {a0 : Nat} {x1 : Int32} {x2 : Int32} (vc : vc_Se_isKept_0 l g R K PR k n a0 x1 x2 w) : hw_J p l e R s m args below meth c Q 4 g A k n 0 [some (.ref a0), some (.int x1), some (.int x2), none] [] w := by
  unfold vc_Se_isKept_0 at vc
  refine hw_aload_n X (Or.inr ⟨_, rfl⟩) dd_Se_isKept_0 rfl ?_
  obtain ⟨b_1, h9, vc⟩ := vc
  refine hw_get X (fe_Se_18 X) h9 dd_Se_isKept_1 ?_
  refine hw_iload_n X dd_Se_isKept_4 rfl ?_
  obtain ⟨x_2, h9, vc⟩ := vc
  refine hw_iald X h9 dd_Se_isKept_5 ?_
  refine hw_iconst X (v := -1) dd_Se_isKept_6 (by decide) ?_
  refine hw_icmp_ne X (tgt := 12) dd_Se_isKept_7 rfl (fun hc => ?_) (fun hc => ?_)
  · replace vc := vc.1 hc
    refine hw_aload_n X (Or.inr ⟨_, rfl⟩) dd_Se_isKept_12 rfl ?_
    obtain ⟨x_3, h9, vc⟩ := vc
    refine hw_get X (fe_Se_65 X) h9 dd_Se_isKept_13 ?_
    refine hw_if_eq X (tgt := 35) dd_Se_isKept_16 rfl (fun hc => ?_) (fun hc => ?_)
    · replace vc := vc.1 hc
      refine hw_iconst X (v := 0) dd_Se_isKept_35 (by decide) ?_
      exact rt dd_Se_isKept_36 vc
    · replace vc := vc.2 hc
      refine hw_aload_n X (Or.inr ⟨_, rfl⟩) dd_Se_isKept_19 rfl ?_
      obtain ⟨b_4, h9, vc⟩ := vc
      refine hw_get X (fe_Se_21 X) h9 dd_Se_isKept_20 ?_
      refine hw_iconst X (v := 1) dd_Se_isKept_23 (by decide) ?_
      obtain ⟨x_5, h9, vc⟩ := vc
      refine hw_iald X h9 dd_Se_isKept_24 ?_
      refine hw_aload_n X (Or.inr ⟨_, rfl⟩) dd_Se_isKept_25 rfl ?_
      obtain ⟨b_6, h9, vc⟩ := vc
      refine hw_get X (fe_Se_15 X) h9 dd_Se_isKept_26 ?_
      refine hw_iload_n X dd_Se_isKept_29 rfl ?_
      obtain ⟨x_7, h9, vc⟩ := vc
      refine hw_iald X h9 dd_Se_isKept_30 ?_
      refine hw_iand X dd_Se_isKept_31 ?_
      refine hw_if_eq X (tgt := 37) dd_Se_isKept_32 rfl (fun hc => ?_) (fun hc => ?_)
      · replace vc := vc.1 hc
        refine hw_iload_n X dd_Se_isKept_37 rfl ?_
        refine hw_aload_n X (Or.inr ⟨_, rfl⟩) dd_Se_isKept_38 rfl ?_
        obtain ⟨b_8, h9, vc⟩ := vc
        refine hw_get X (fe_Se_21 X) h9 dd_Se_isKept_39 ?_
        refine hw_aload_n X (Or.inr ⟨_, rfl⟩) dd_Se_isKept_42 rfl ?_
        obtain ⟨x_9, h9, vc⟩ := vc
        refine hw_get X (fe_Se_65 X) h9 dd_Se_isKept_43 ?_
        obtain ⟨x_10, h9, vc⟩ := vc
        refine hw_iald X h9 dd_Se_isKept_46 ?_
        refine hw_iconst X (v := -1) dd_Se_isKept_47 (by decide) ?_
        refine hw_ixor X dd_Se_isKept_48 ?_
        refine hw_iand X dd_Se_isKept_49 ?_
        refine hw_top (fun y11 ey11 => ?_)
        replace vc := vc y11 ey11
        refine hw_istore_n X dd_Se_isKept_50 (by decide) rfl ?_
        refine hw_aload_n X (Or.inr ⟨_, rfl⟩) dd_Se_isKept_51 rfl ?_
        obtain ⟨b_12, h9, vc⟩ := vc
        refine hw_get X (fe_Se_21 X) h9 dd_Se_isKept_52 ?_
        refine hw_aload_n X (Or.inr ⟨_, rfl⟩) dd_Se_isKept_55 rfl ?_
        obtain ⟨x_13, h9, vc⟩ := vc
        refine hw_get X (fe_Se_65 X) h9 dd_Se_isKept_56 ?_
        obtain ⟨x_14, h9, vc⟩ := vc
        refine hw_iald X h9 dd_Se_isKept_59 ?_
        refine hw_aload_n X (Or.inr ⟨_, rfl⟩) dd_Se_isKept_60 rfl ?_
        obtain ⟨b_15, h9, vc⟩ := vc
        refine hw_get X (fe_Se_15 X) h9 dd_Se_isKept_61 ?_
        refine hw_iload_n X dd_Se_isKept_64 rfl ?_
        obtain ⟨x_16, h9, vc⟩ := vc
        refine hw_iald X h9 dd_Se_isKept_65 ?_
        refine hw_iand X dd_Se_isKept_66 ?_
        refine hw_if_ne X (tgt := 80) dd_Se_isKept_67 rfl (fun hc => ?_) (fun hc => ?_)
        · replace vc := vc.1 hc
          refine hw_iconst X (v := 1) dd_Se_isKept_80 (by decide) ?_
          refine hw_goto X (tgt := 85) dd_Se_isKept_81 rfl ?_
          exact rt dd_Se_isKept_85 vc
        · replace vc := vc.2 hc
          refine hw_iload_n X dd_Se_isKept_70 rfl ?_
          refine hw_aload_n X (Or.inr ⟨_, rfl⟩) dd_Se_isKept_71 rfl ?_
          obtain ⟨b_17, h9, vc⟩ := vc
          refine hw_get X (fe_Se_15 X) h9 dd_Se_isKept_72 ?_
          refine hw_iload_n X dd_Se_isKept_75 rfl ?_
          obtain ⟨x_18, h9, vc⟩ := vc
          refine hw_iald X h9 dd_Se_isKept_76 ?_
          refine hw_icmp_ne X (tgt := 84) dd_Se_isKept_77 rfl (fun hc => ?_) (fun hc => ?_)
          · replace vc := vc.1 hc
            refine hw_iconst X (v := 0) dd_Se_isKept_84 (by decide) ?_
            exact rt dd_Se_isKept_85 vc
          · replace vc := vc.2 hc
            refine hw_iconst X (v := 1) dd_Se_isKept_80 (by decide) ?_
            refine hw_goto X (tgt := 85) dd_Se_isKept_81 rfl ?_
            exact rt dd_Se_isKept_85 vc
      · replace vc := vc.2 hc
        refine hw_iconst X (v := 0) dd_Se_isKept_35 (by decide) ?_
        exact rt dd_Se_isKept_36 vc
  · replace vc := vc.2 hc
    refine hw_iconst X (v := 1) dd_Se_isKept_10 (by decide) ?_
    exact rt dd_Se_isKept_11 vc
end
section
variable {p : Program} {l : Launch} {e : Env} {R : Room} {s : State} {m : MethodId} {args : Array Value} {below : List Frame} {meth : Method} {c : Code} {Q : State → Prop} {g : hw_G} {A : Nat → Prop} {k n : Nat} {w : hw_H}
def vc_Se_stepHolds_0 (l : Launch) (g : hw_G) (R : Room) (K : Nat → Nat → Nat → List (Option Value) → List Value → hw_H → Prop) (PR : Nat → Nat → Int32 → hw_H → Prop) (k n : Nat) (a0 : Nat) (x1 : Int32) (w : hw_H) : Prop := hw_ci l g R k n ym_Co_opposites (mw_Co_opposites) 1 [.int x1] w (fun (k2 n3 : Nat) (x_4 : Int32) (w1 : hw_H) => ∃ x_5 : Int32, hw_g w1 a0 2 14 (.int x_5) ∧ (∀ y6 : Int32, y6 = (x_5 - (1 : Int32)) → (K k2 n3 12 [some (.ref a0), some (.int x1), some (.int x_4), some (.int y6), none] [] w1)))
set_option maxHeartbeats 4000000 in
set_option maxRecDepth 100000 in
theorem sg_Se_stepHolds_0 (X : hw_X p m c cb_Se_stepHolds 5 s args (mw_Se_stepHolds) "ProofCourt$Search" g A) {K : Nat → Nat → Nat → List (Option Value) → List Value → hw_H → Prop} {PR : Nat → Nat → Int32 → hw_H → Prop} (hK : ∀ (k n pc : Nat) (lv : List (Option Value)) (st : List Value) (w : hw_H), K k n pc lv st w → hw_J p l e R s m args below meth c Q 5 g A k n pc lv st w) (rt : ∀ {k n pc : Nat} {lv : List (Option Value)} {x : Int32} {w : hw_H}, decode cb_Se_stepHolds pc = .ok (.ireturn, 1) → PR k n x w → hw_J p l e R s m args below meth c Q 5 g A k n pc lv [.int x] w) {a0 : Nat} {x1 : Int32} (vc : vc_Se_stepHolds_0 l g R K PR k n a0 x1 w) : hw_J p l e R s m args below meth c Q 5 g A k n 0 [some (.ref a0), some (.int x1), none, none, none] [] w := by
  unfold vc_Se_stepHolds_0 at vc
  refine hw_iload_n X dd_Se_stepHolds_0 rfl ?_
  obtain ⟨rm9, po9, hM9, hf9, hc9, vc⟩ := vc
  refine hw_callSi X (As := [.int x1]) (ye_Se_104 X) hM9 rfl hf9 hc9 (Nat.le_of_ble_eq_true rfl) rfl dd_Se_stepHolds_1 (fun x_4 w1 hp => ?_)
  replace vc := vc x_4 w1 hp
  refine hw_istore_n X dd_Se_stepHolds_4 (by decide) rfl ?_
  refine hw_aload_n X (Or.inr ⟨_, rfl⟩) dd_Se_stepHolds_5 rfl ?_
  obtain ⟨x_5, h9, vc⟩ := vc
  refine hw_get X (fe_Se_101 X) h9 dd_Se_stepHolds_6 ?_
  refine hw_iconst X (v := 1) dd_Se_stepHolds_9 (by decide) ?_
  refine hw_isub X dd_Se_stepHolds_10 ?_
  refine hw_top (fun y6 ey6 => ?_)
  replace vc := vc y6 ey6
  refine hw_istore_n X dd_Se_stepHolds_11 (by decide) rfl ?_
  exact hK _ _ _ _ _ _ vc
def vc_Se_stepHolds_12 (l : Launch) (g : hw_G) (R : Room) (K : Nat → Nat → Nat → List (Option Value) → List Value → hw_H → Prop) (PR : Nat → Nat → Int32 → hw_H → Prop) (k n : Nat) (a0 : Nat) (x1 : Int32) (x2 : Int32) (x3 : Int32) (w : hw_H) : Prop := ((x3 < 0) → (PR k n (0 : Int32) w)) ∧ ((¬ x3 < 0) → (∃ b_1 : Nat, hw_g w a0 2 0 (.ref b_1) ∧ (∃ b_2 : Nat, hw_g w a0 2 13 (.ref b_2) ∧ (∃ x_3 : Int32, hw_ai g 0 w b_2 x3 x_3 ∧ (∃ x_4 : Int32, hw_ai g 0 w b_1 x_3 x_4 ∧ (hw_ci l g R k n ym_Co_follow (mw_Co_follow) 3 [.int x_4, .int x2] w (fun (k6 n7 : Nat) (x_8 : Int32) (w5 : hw_H) => ((0 ≤ x_8) → (K k6 n7 12 [some (.ref a0), some (.int x1), some (.int x_8), some (.int (x3 + (-1))), none] [] w5)) ∧ ((¬ 0 ≤ x_8) → (((¬ x_8 = (-1 : Int32)) → (PR k6 n7 (0 : Int32) w5)) ∧ ((x_8 = (-1 : Int32)) → (PR k6 n7 (1 : Int32) w5)))))))))))
set_option maxHeartbeats 4000000 in
set_option maxRecDepth 100000 in
theorem sg_Se_stepHolds_12 (X : hw_X p m c cb_Se_stepHolds 5 s args (mw_Se_stepHolds) "ProofCourt$Search" g A) {K : Nat → Nat → Nat → List (Option Value) → List Value → hw_H → Prop} {PR : Nat → Nat → Int32 → hw_H → Prop} (hK : ∀ (k n pc : Nat) (lv : List (Option Value)) (st : List Value) (w : hw_H), K k n pc lv st w → hw_J p l e R s m args below meth c Q 5 g A k n pc lv st w) (rt : ∀ {k n pc : Nat} {lv : List (Option Value)} {x : Int32} {w : hw_H}, decode cb_Se_stepHolds pc = .ok (.ireturn, 1) → PR k n x w → hw_J p l e R s m args below meth c Q 5 g A k n pc lv [.int x] w) {a0 : Nat} {x1 : Int32} {x2 : Int32} {x3 : Int32} (vc : vc_Se_stepHolds_12 l g R K PR k n a0 x1 x2 x3 w) : hw_J p l e R s m args below meth c Q 5 g A k n 12 [some (.ref a0), some (.int x1), some (.int x2), some (.int x3), none] [] w := by
  unfold vc_Se_stepHolds_12 at vc
  refine hw_iload_n X dd_Se_stepHolds_12 rfl ?_
  refine hw_if_lt X (tgt := 59) dd_Se_stepHolds_13 rfl (fun hc => ?_) (fun hc => ?_)
  · replace vc := vc.1 hc
    refine hw_iconst X (v := 0) dd_Se_stepHolds_59 (by decide) ?_
    exact rt dd_Se_stepHolds_60 vc
  · replace vc := vc.2 hc
    refine hw_aload_n X (Or.inr ⟨_, rfl⟩) dd_Se_stepHolds_16 rfl ?_
    obtain ⟨b_1, h9, vc⟩ := vc
    refine hw_get X (fe_Se_9 X) h9 dd_Se_stepHolds_17 ?_
    refine hw_aload_n X (Or.inr ⟨_, rfl⟩) dd_Se_stepHolds_20 rfl ?_
    obtain ⟨b_2, h9, vc⟩ := vc
    refine hw_get X (fe_Se_24 X) h9 dd_Se_stepHolds_21 ?_
    refine hw_iload_n X dd_Se_stepHolds_24 rfl ?_
    obtain ⟨x_3, h9, vc⟩ := vc
    refine hw_iald X h9 dd_Se_stepHolds_25 ?_
    obtain ⟨x_4, h9, vc⟩ := vc
    refine hw_iald X h9 dd_Se_stepHolds_26 ?_
    refine hw_iload_n X dd_Se_stepHolds_27 rfl ?_
    obtain ⟨rm9, po9, hM9, hf9, hc9, vc⟩ := vc
    refine hw_callSi X (As := [.int x_4, .int x2]) (ye_Se_79 X) hM9 rfl hf9 hc9 (Nat.le_of_ble_eq_true rfl) rfl dd_Se_stepHolds_28 (fun x_8 w5 hp => ?_)
    replace vc := vc x_8 w5 hp
    refine hw_istore X dd_Se_stepHolds_31 (by decide) rfl ?_
    refine hw_iload X dd_Se_stepHolds_33 rfl ?_
    refine hw_if_ge X (tgt := 50) dd_Se_stepHolds_35 rfl (fun hc => ?_) (fun hc => ?_)
    · replace vc := vc.1 hc
      refine hw_iload X dd_Se_stepHolds_50 rfl ?_
      refine hw_istore_n X dd_Se_stepHolds_52 (by decide) rfl ?_
      refine hw_iinc X (v := (x3 + (-1))) dd_Se_stepHolds_53 rfl rfl (by decide) rfl ?_
      refine hw_goto X (tgt := 12) dd_Se_stepHolds_56 rfl ?_
      exact hw_drop (lv9 := [some (.ref a0), some (.int x1), some (.int x_8), some (.int (x3 + (-1))), none]) (⟨rfl, ⟨rfl, ⟨rfl, ⟨rfl, ⟨trivial, trivial⟩⟩⟩⟩⟩) (hK _ _ _ _ _ _ vc)
    · replace vc := vc.2 hc
      refine hw_iload X dd_Se_stepHolds_38 rfl ?_
      refine hw_iconst X (v := -1) dd_Se_stepHolds_40 (by decide) ?_
      refine hw_icmp_ne X (tgt := 48) dd_Se_stepHolds_41 rfl (fun hc => ?_) (fun hc => ?_)
      · replace vc := vc.1 hc
        refine hw_iconst X (v := 0) dd_Se_stepHolds_48 (by decide) ?_
        exact rt dd_Se_stepHolds_49 vc
      · replace vc := vc.2 hc
        refine hw_iconst X (v := 1) dd_Se_stepHolds_44 (by decide) ?_
        refine hw_goto X (tgt := 49) dd_Se_stepHolds_45 rfl ?_
        exact rt dd_Se_stepHolds_49 vc
end
section
variable {p : Program} {l : Launch} {e : Env} {R : Room} {s : State} {m : MethodId} {args : Array Value} {below : List Frame} {meth : Method} {c : Code} {Q : State → Prop} {g : hw_G} {A : Nat → Prop} {k n : Nat} {w : hw_H}
def vc_Se_jumpBack_0 (l : Launch) (g : hw_G) (R : Room) (K : Nat → Nat → Nat → List (Option Value) → List Value → hw_H → Prop) (PR : Nat → Nat → hw_H → Prop) (k n : Nat) (a0 : Nat) (x1 : Int32) (w : hw_H) : Prop := hw_ci l g R k n ym_Co_opposites (mw_Co_opposites) 1 [.int x1] w (fun (k2 n3 : Nat) (x_4 : Int32) (w1 : hw_H) => ∃ b_5 : Nat, hw_g w1 a0 2 11 (.ref b_5) ∧ (∃ x_6 : Int32, hw_g w1 a0 2 12 (.int x_6) ∧ (∃ x_7 : Int32, hw_ai g 0 w1 b_5 x_6 x_7 ∧ (∀ y8 : Int32, y8 = (x_4 &&& x_7) → (K k2 n3 17 [some (.ref a0), some (.int x1), some (.int y8), some (.int (0 : Int32))] [] w1)))))
set_option maxHeartbeats 4000000 in
set_option maxRecDepth 100000 in
theorem sg_Se_jumpBack_0 (X : hw_X p m c cb_Se_jumpBack 4 s args (mw_Se_jumpBack) "ProofCourt$Search" g A) {K : Nat → Nat → Nat → List (Option Value) → List Value → hw_H → Prop} {PR : Nat → Nat → hw_H → Prop} (hK : ∀ (k n pc : Nat) (lv : List (Option Value)) (st : List Value) (w : hw_H), K k n pc lv st w → hw_J p l e R s m args below meth c Q 4 g A k n pc lv st w) (rt : ∀ {k n pc : Nat} {lv : List (Option Value)} {w : hw_H}, decode cb_Se_jumpBack pc = .ok (.return_, 1) → PR k n w → hw_J p l e R s m args below meth c Q 4 g A k n pc lv [] w) {a0 : Nat} {x1 : Int32} (vc : vc_Se_jumpBack_0 l g R K PR k n a0 x1 w) : hw_J p l e R s m args below meth c Q 4 g A k n 0 [some (.ref a0), some (.int x1), none, none] [] w := by
  unfold vc_Se_jumpBack_0 at vc
  refine hw_iload_n X dd_Se_jumpBack_0 rfl ?_
  obtain ⟨rm9, po9, hM9, hf9, hc9, vc⟩ := vc
  refine hw_callSi X (As := [.int x1]) (ye_Se_104 X) hM9 rfl hf9 hc9 (Nat.le_of_ble_eq_true rfl) rfl dd_Se_jumpBack_1 (fun x_4 w1 hp => ?_)
  replace vc := vc x_4 w1 hp
  refine hw_aload_n X (Or.inr ⟨_, rfl⟩) dd_Se_jumpBack_4 rfl ?_
  obtain ⟨b_5, h9, vc⟩ := vc
  refine hw_get X (fe_Se_21 X) h9 dd_Se_jumpBack_5 ?_
  refine hw_aload_n X (Or.inr ⟨_, rfl⟩) dd_Se_jumpBack_8 rfl ?_
  obtain ⟨x_6, h9, vc⟩ := vc
  refine hw_get X (fe_Se_65 X) h9 dd_Se_jumpBack_9 ?_
  obtain ⟨x_7, h9, vc⟩ := vc
  refine hw_iald X h9 dd_Se_jumpBack_12 ?_
  refine hw_iand X dd_Se_jumpBack_13 ?_
  refine hw_top (fun y8 ey8 => ?_)
  replace vc := vc y8 ey8
  refine hw_istore_n X dd_Se_jumpBack_14 (by decide) rfl ?_
  refine hw_iconst X (v := 0) dd_Se_jumpBack_15 (by decide) ?_
  refine hw_istore_n X dd_Se_jumpBack_16 (by decide) rfl ?_
  exact hK _ _ _ _ _ _ vc
def vc_Se_jumpBack_17 (l : Launch) (g : hw_G) (R : Room) (K : Nat → Nat → Nat → List (Option Value) → List Value → hw_H → Prop) (PR : Nat → Nat → hw_H → Prop) (k n : Nat) (a0 : Nat) (x1 : Int32) (x2 : Int32) (x3 : Int32) (w : hw_H) : Prop := ∃ x_1 : Int32, hw_g w a0 2 12 (.int x_1) ∧ ((((x_1 - (1 : Int32)) ≤ x3) → (∃ b_2 : Nat, hw_g w a0 2 11 (.ref b_2) ∧ (∃ x_3 : Int32, hw_ai g 0 w b_2 (x3 + (1 : Int32)) x_3 ∧ (∃ w4 : hw_H, hw_p w a0 2 7 (.int x_3) w4 ∧ (∃ x_5 : Int32, hw_g w4 a0 2 7 (.int x_5) ∧ (hw_ci l g R k n ym_In_bitCount (mw_In_bitCount) 1 [.int x_5] w4 (fun (k7 n8 : Nat) (x_9 : Int32) (w6 : hw_H) => ∃ w10 : hw_H, hw_p w6 a0 2 10 (.int x_9) w10 ∧ (∃ w11 : hw_H, hw_p w10 a0 2 12 (.int x3) w11 ∧ (PR k7 n8 w11))))))))) ∧ ((¬ (x_1 - (1 : Int32)) ≤ x3) → (∃ b_12 : Nat, hw_g w a0 2 11 (.ref b_12) ∧ (∃ x_13 : Int32, hw_ai g 0 w b_12 (x3 + (1 : Int32)) x_13 ∧ ((((x2 &&& (x_13 ^^^ (-1 : Int32))) = 0) → (∃ b_14 : Nat, hw_g w a0 2 11 (.ref b_14) ∧ (∃ x_15 : Int32, hw_ai g 0 w b_14 (x3 + (1 : Int32)) x_15 ∧ (∃ w16 : hw_H, hw_p w a0 2 7 (.int x_15) w16 ∧ (∃ x_17 : Int32, hw_g w16 a0 2 7 (.int x_17) ∧ (hw_ci l g R k n ym_In_bitCount (mw_In_bitCount) 1 [.int x_17] w16 (fun (k19 n20 : Nat) (x_21 : Int32) (w18 : hw_H) => ∃ w22 : hw_H, hw_p w18 a0 2 10 (.int x_21) w22 ∧ (∃ w23 : hw_H, hw_p w22 a0 2 12 (.int x3) w23 ∧ (PR k19 n20 w23))))))))) ∧ ((¬ (x2 &&& (x_13 ^^^ (-1 : Int32))) = 0) → (K k n 17 [some (.ref a0), some (.int x1), some (.int x2), some (.int (x3 + 1))] [] w)))))))
set_option maxHeartbeats 4000000 in
set_option maxRecDepth 100000 in
theorem sg_Se_jumpBack_17 (X : hw_X p m c cb_Se_jumpBack 4 s args (mw_Se_jumpBack) "ProofCourt$Search" g A) {K : Nat → Nat → Nat → List (Option Value) → List Value → hw_H → Prop} {PR : Nat → Nat → hw_H → Prop} (hK : ∀ (k n pc : Nat) (lv : List (Option Value)) (st : List Value) (w : hw_H), K k n pc lv st w → hw_J p l e R s m args below meth c Q 4 g A k n pc lv st w) (rt : ∀ {k n pc : Nat} {lv : List (Option Value)} {w : hw_H}, decode cb_Se_jumpBack pc = .ok (.return_, 1) → PR k n w → hw_J p l e R s m args below meth c Q 4 g A k n pc lv [] w) {a0 : Nat} {x1 : Int32} {x2 : Int32} {x3 : Int32} (vc : vc_Se_jumpBack_17 l g R K PR k n a0 x1 x2 x3 w) : hw_J p l e R s m args below meth c Q 4 g A k n 17 [some (.ref a0), some (.int x1), some (.int x2), some (.int x3)] [] w := by
  unfold vc_Se_jumpBack_17 at vc
  refine hw_iload_n X dd_Se_jumpBack_17 rfl ?_
  refine hw_aload_n X (Or.inr ⟨_, rfl⟩) dd_Se_jumpBack_18 rfl ?_
  obtain ⟨x_1, h9, vc⟩ := vc
  refine hw_get X (fe_Se_65 X) h9 dd_Se_jumpBack_19 ?_
  refine hw_iconst X (v := 1) dd_Se_jumpBack_22 (by decide) ?_
  refine hw_isub X dd_Se_jumpBack_23 ?_
  refine hw_icmp_ge X (tgt := 48) dd_Se_jumpBack_24 rfl (fun hc => ?_) (fun hc => ?_)
  · replace vc := vc.1 hc
    refine hw_aload_n X (Or.inr ⟨_, rfl⟩) dd_Se_jumpBack_48 rfl ?_
    refine hw_aload_n X (Or.inr ⟨_, rfl⟩) dd_Se_jumpBack_49 rfl ?_
    obtain ⟨b_2, h9, vc⟩ := vc
    refine hw_get X (fe_Se_21 X) h9 dd_Se_jumpBack_50 ?_
    refine hw_iload_n X dd_Se_jumpBack_53 rfl ?_
    refine hw_iconst X (v := 1) dd_Se_jumpBack_54 (by decide) ?_
    refine hw_iadd X dd_Se_jumpBack_55 ?_
    obtain ⟨x_3, h9, vc⟩ := vc
    refine hw_iald X h9 dd_Se_jumpBack_56 ?_
    obtain ⟨w4, h9, vc⟩ := vc
    refine hw_put X (fp_Se_59 X) rfl rfl h9 dd_Se_jumpBack_57 ?_
    refine hw_aload_n X (Or.inr ⟨_, rfl⟩) dd_Se_jumpBack_60 rfl ?_
    refine hw_aload_n X (Or.inr ⟨_, rfl⟩) dd_Se_jumpBack_61 rfl ?_
    obtain ⟨x_5, h9, vc⟩ := vc
    refine hw_get X (fe_Se_59 X) h9 dd_Se_jumpBack_62 ?_
    obtain ⟨rm9, po9, hM9, hf9, hc9, vc⟩ := vc
    refine hw_callSi X (As := [.int x_5]) (ye_Se_111 X) hM9 rfl hf9 hc9 (Nat.le_of_ble_eq_true rfl) rfl dd_Se_jumpBack_65 (fun x_9 w6 hp => ?_)
    replace vc := vc x_9 w6 hp
    obtain ⟨w10, h9, vc⟩ := vc
    refine hw_put X (fp_Se_62 X) rfl rfl h9 dd_Se_jumpBack_68 ?_
    refine hw_aload_n X (Or.inr ⟨_, rfl⟩) dd_Se_jumpBack_71 rfl ?_
    refine hw_iload_n X dd_Se_jumpBack_72 rfl ?_
    obtain ⟨w11, h9, vc⟩ := vc
    refine hw_put X (fp_Se_65 X) rfl rfl h9 dd_Se_jumpBack_73 ?_
    exact rt dd_Se_jumpBack_76 vc
  · replace vc := vc.2 hc
    refine hw_iload_n X dd_Se_jumpBack_27 rfl ?_
    refine hw_aload_n X (Or.inr ⟨_, rfl⟩) dd_Se_jumpBack_28 rfl ?_
    obtain ⟨b_12, h9, vc⟩ := vc
    refine hw_get X (fe_Se_21 X) h9 dd_Se_jumpBack_29 ?_
    refine hw_iload_n X dd_Se_jumpBack_32 rfl ?_
    refine hw_iconst X (v := 1) dd_Se_jumpBack_33 (by decide) ?_
    refine hw_iadd X dd_Se_jumpBack_34 ?_
    obtain ⟨x_13, h9, vc⟩ := vc
    refine hw_iald X h9 dd_Se_jumpBack_35 ?_
    refine hw_iconst X (v := -1) dd_Se_jumpBack_36 (by decide) ?_
    refine hw_ixor X dd_Se_jumpBack_37 ?_
    refine hw_iand X dd_Se_jumpBack_38 ?_
    refine hw_if_eq X (tgt := 48) dd_Se_jumpBack_39 rfl (fun hc => ?_) (fun hc => ?_)
    · replace vc := vc.1 hc
      refine hw_aload_n X (Or.inr ⟨_, rfl⟩) dd_Se_jumpBack_48 rfl ?_
      refine hw_aload_n X (Or.inr ⟨_, rfl⟩) dd_Se_jumpBack_49 rfl ?_
      obtain ⟨b_14, h9, vc⟩ := vc
      refine hw_get X (fe_Se_21 X) h9 dd_Se_jumpBack_50 ?_
      refine hw_iload_n X dd_Se_jumpBack_53 rfl ?_
      refine hw_iconst X (v := 1) dd_Se_jumpBack_54 (by decide) ?_
      refine hw_iadd X dd_Se_jumpBack_55 ?_
      obtain ⟨x_15, h9, vc⟩ := vc
      refine hw_iald X h9 dd_Se_jumpBack_56 ?_
      obtain ⟨w16, h9, vc⟩ := vc
      refine hw_put X (fp_Se_59 X) rfl rfl h9 dd_Se_jumpBack_57 ?_
      refine hw_aload_n X (Or.inr ⟨_, rfl⟩) dd_Se_jumpBack_60 rfl ?_
      refine hw_aload_n X (Or.inr ⟨_, rfl⟩) dd_Se_jumpBack_61 rfl ?_
      obtain ⟨x_17, h9, vc⟩ := vc
      refine hw_get X (fe_Se_59 X) h9 dd_Se_jumpBack_62 ?_
      obtain ⟨rm9, po9, hM9, hf9, hc9, vc⟩ := vc
      refine hw_callSi X (As := [.int x_17]) (ye_Se_111 X) hM9 rfl hf9 hc9 (Nat.le_of_ble_eq_true rfl) rfl dd_Se_jumpBack_65 (fun x_21 w18 hp => ?_)
      replace vc := vc x_21 w18 hp
      obtain ⟨w22, h9, vc⟩ := vc
      refine hw_put X (fp_Se_62 X) rfl rfl h9 dd_Se_jumpBack_68 ?_
      refine hw_aload_n X (Or.inr ⟨_, rfl⟩) dd_Se_jumpBack_71 rfl ?_
      refine hw_iload_n X dd_Se_jumpBack_72 rfl ?_
      obtain ⟨w23, h9, vc⟩ := vc
      refine hw_put X (fp_Se_65 X) rfl rfl h9 dd_Se_jumpBack_73 ?_
      exact rt dd_Se_jumpBack_76 vc
    · replace vc := vc.2 hc
      refine hw_iinc X (v := (x3 + 1)) dd_Se_jumpBack_42 rfl rfl (by decide) rfl ?_
      refine hw_goto X (tgt := 17) dd_Se_jumpBack_45 rfl ?_
      exact hK _ _ _ _ _ _ vc
end
