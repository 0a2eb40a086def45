section
variable {p : Program} {l : Launch} {e : Env} {R : Room} {s : State} {m : MethodId} {args : Array Value} {below : List Frame} {meth : Method} {c : Code} {Q : State → Prop} {g : hw_G} {A : Nat → Prop} {k n : Nat} {w : hw_H}
def vc_Mo_init_0 (l : Launch) (g : hw_G) (R : Room) (K : Nat → Nat → Nat → List (Option Value) → List Value → hw_H → Prop) (PR : Nat → Nat → hw_H → Prop) (k n : Nat) (a0 : Nat) (w : hw_H) : Prop := (k + 1 ≤ R.cells ∧ n + 160 ≤ R.slots) ∧ ∀ (q1 : Nat) (w2 : hw_H), w q1 = none → w2 = va_up w q1 (some (.inl (g.2.1 0, 160, .inl (fun _ => 0)))) → (∃ w3 : hw_H, hw_p w2 a0 8 0 (.ref q1) w3 ∧ (((k + 1) + 1 ≤ R.cells ∧ (n + 160) + 90 ≤ R.slots) ∧ ∀ (q4 : Nat) (w5 : hw_H), w3 q4 = none → w5 = va_up w3 q4 (some (.inl (g.2.1 0, 90, .inl (fun _ => 0)))) → (∃ w6 : hw_H, hw_p w5 a0 8 3 (.ref q4) w6 ∧ ((((k + 1) + 1) + 1 ≤ R.cells ∧ ((n + 160) + 90) + 90 ≤ R.slots) ∧ ∀ (q7 : Nat) (w8 : hw_H), w6 q7 = none → w8 = va_up w6 q7 (some (.inl (g.2.1 0, 90, .inl (fun _ => 0)))) → (∃ w9 : hw_H, hw_p w8 a0 8 4 (.ref q7) w9 ∧ (((((k + 1) + 1) + 1) + 1 ≤ R.cells ∧ (((n + 160) + 90) + 90) + 89 ≤ R.slots) ∧ ∀ (q10 : Nat) (w11 : hw_H), w9 q10 = none → w11 = va_up w9 q10 (some (.inl (g.2.1 0, 89, .inl (fun _ => 0)))) → (∃ w12 : hw_H, hw_p w11 a0 8 9 (.ref q10) w12 ∧ ((((((k + 1) + 1) + 1) + 1) + 1 ≤ R.cells ∧ ((((n + 160) + 90) + 90) + 89) + 534 ≤ R.slots) ∧ ∀ (q13 : Nat) (w14 : hw_H), w12 q13 = none → w14 = va_up w12 q13 (some (.inl (g.2.1 0, 534, .inl (fun _ => 0)))) → (∃ w15 : hw_H, hw_p w14 a0 8 10 (.ref q13) w15 ∧ (((((((k + 1) + 1) + 1) + 1) + 1) + 1 ≤ R.cells ∧ (((((n + 160) + 90) + 90) + 89) + 534) + 40 ≤ R.slots) ∧ ∀ (q16 : Nat) (w17 : hw_H), w15 q16 = none → w17 = va_up w15 q16 (some (.inl (g.2.1 0, 40, .inl (fun _ => 0)))) → (∃ w18 : hw_H, hw_p w17 a0 8 11 (.ref q16) w18 ∧ ((((((((k + 1) + 1) + 1) + 1) + 1) + 1) + 1 ≤ R.cells ∧ ((((((n + 160) + 90) + 90) + 89) + 534) + 40) + 12 ≤ R.slots) ∧ ∀ (q19 : Nat) (w20 : hw_H), w18 q19 = none → w20 = va_up w18 q19 (some (.inl (g.2.1 0, 12, .inl (fun _ => 0)))) → (∃ w21 : hw_H, hw_p w20 a0 8 17 (.ref q19) w21 ∧ (((((((((k + 1) + 1) + 1) + 1) + 1) + 1) + 1) + 1 ≤ R.cells ∧ (((((((n + 160) + 90) + 90) + 89) + 534) + 40) + 12) + 21 ≤ R.slots) ∧ ∀ (q22 : Nat) (w23 : hw_H), w21 q22 = none → w23 = va_up w21 q22 (some (.inl (g.2.1 2, 21, .inl (fun _ => 0)))) → (∃ w24 : hw_H, hw_p w23 a0 8 18 (.ref q22) w24 ∧ ((((((((((k + 1) + 1) + 1) + 1) + 1) + 1) + 1) + 1) + 1 ≤ R.cells ∧ ((((((((n + 160) + 90) + 90) + 89) + 534) + 40) + 12) + 21) + 21 ≤ R.slots) ∧ ∀ (q25 : Nat) (w26 : hw_H), w24 q25 = none → w26 = va_up w24 q25 (some (.inl (g.2.1 2, 21, .inl (fun _ => 0)))) → (∃ w27 : hw_H, hw_p w26 a0 8 19 (.ref q25) w27 ∧ (PR (((((((((k + 1) + 1) + 1) + 1) + 1) + 1) + 1) + 1) + 1) (((((((((n + 160) + 90) + 90) + 89) + 534) + 40) + 12) + 21) + 21) w27))))))))))))))))))
set_option maxHeartbeats 4000000 in
set_option maxRecDepth 100000 in
theorem sg_Mo_init_0 (X : hw_X p m c cb_Mo_init 1 s args (mw_Mo_init) "ProofCourtModel" g A) (hin : meth.name = "<init>") (hRm : 1 ≤ R.frames ∧ 20 ≤ R.locals) {K : Nat → Nat → Nat → List (Option Value) → List Value → hw_H → Prop} {PR : Nat → Nat → hw_H → Prop} (hK : ∀ (k n pc : Nat) (lv : List (Option Value)) (st : List Value) (w : hw_H), K k n pc lv st w → hw_J p l e R s m args below meth c Q 1 g A k n pc lv st w) (rt : ∀ {k n pc : Nat} {lv : List (Option Value)} {w : hw_H}, decode cb_Mo_init pc = .ok (.return_, 1) → PR k n w → hw_J p l e R s m args below meth c Q 1 g A k n pc lv [] w) {a0 : Nat} (vc : vc_Mo_init_0 l g R K PR k n a0 w) : hw_J p l e R s m args below meth c Q 1 g A k n 0 [some (.ref a0)] [] w := by
  unfold vc_Mo_init_0 at vc
  refine hw_aload_n X (Or.inr ⟨_, rfl⟩) dd_Mo_init_0 rfl ?_
  refine hw_objInit X (oi_Mo_1 X) (oj_Mo X) (ok_Mo X) (hw_oi1 hRm) (hw_oi2 hRm) (by decide) dd_Mo_init_1 ?_
  refine hw_aload_n X (Or.inr ⟨_, rfl⟩) dd_Mo_init_4 rfl ?_
  refine hw_sipush X (v := 160) dd_Mo_init_5 (by decide) ?_
  refine hw_newa X (t := 0) (N := 160) (ty := .int) (ac_Mo_int X) rfl rfl (fun _ z => by cases z) rfl (by decide) (by decide) (by decide) vc.1.1 vc.1.2 dd_Mo_init_8 (fun q1 hq => ?_)
  replace vc := vc.2 q1 _ hq rfl
  obtain ⟨w3, h9, vc⟩ := vc
  refine hw_putF X (ff_Mo_7 X) hin rfl rfl h9 dd_Mo_init_10 ?_
  refine hw_aload_n X (Or.inr ⟨_, rfl⟩) dd_Mo_init_13 rfl ?_
  refine hw_bipush X (v := 90) dd_Mo_init_14 (by decide) ?_
  refine hw_newa X (t := 0) (N := 90) (ty := .int) (ac_Mo_int X) rfl rfl (fun _ z => by cases z) rfl (by decide) (by decide) (by decide) vc.1.1 vc.1.2 dd_Mo_init_16 (fun q4 hq => ?_)
  replace vc := vc.2 q4 _ hq rfl
  obtain ⟨w6, h9, vc⟩ := vc
  refine hw_putF X (ff_Mo_13 X) hin rfl rfl h9 dd_Mo_init_18 ?_
  refine hw_aload_n X (Or.inr ⟨_, rfl⟩) dd_Mo_init_21 rfl ?_
  refine hw_bipush X (v := 90) dd_Mo_init_22 (by decide) ?_
  refine hw_newa X (t := 0) (N := 90) (ty := .int) (ac_Mo_int X) rfl rfl (fun _ z => by cases z) rfl (by decide) (by decide) (by decide) vc.1.1 vc.1.2 dd_Mo_init_24 (fun q7 hq => ?_)
  replace vc := vc.2 q7 _ hq rfl
  obtain ⟨w9, h9, vc⟩ := vc
  refine hw_putF X (ff_Mo_16 X) hin rfl rfl h9 dd_Mo_init_26 ?_
  refine hw_aload_n X (Or.inr ⟨_, rfl⟩) dd_Mo_init_29 rfl ?_
  refine hw_bipush X (v := 89) dd_Mo_init_30 (by decide) ?_
  refine hw_newa X (t := 0) (N := 89) (ty := .int) (ac_Mo_int X) rfl rfl (fun _ z => by cases z) rfl (by decide) (by decide) (by decide) vc.1.1 vc.1.2 dd_Mo_init_32 (fun q10 hq => ?_)
  replace vc := vc.2 q10 _ hq rfl
  obtain ⟨w12, h9, vc⟩ := vc
  refine hw_putF X (ff_Mo_19 X) hin rfl rfl h9 dd_Mo_init_34 ?_
  refine hw_aload_n X (Or.inr ⟨_, rfl⟩) dd_Mo_init_37 rfl ?_
  refine hw_sipush X (v := 534) dd_Mo_init_38 (by decide) ?_
  refine hw_newa X (t := 0) (N := 534) (ty := .int) (ac_Mo_int X) rfl rfl (fun _ z => by cases z) rfl (by decide) (by decide) (by decide) vc.1.1 vc.1.2 dd_Mo_init_41 (fun q13 hq => ?_)
  replace vc := vc.2 q13 _ hq rfl
  obtain ⟨w15, h9, vc⟩ := vc
  refine hw_putF X (ff_Mo_22 X) hin rfl rfl h9 dd_Mo_init_43 ?_
  refine hw_aload_n X (Or.inr ⟨_, rfl⟩) dd_Mo_init_46 rfl ?_
  refine hw_bipush X (v := 40) dd_Mo_init_47 (by decide) ?_
  refine hw_newa X (t := 0) (N := 40) (ty := .int) (ac_Mo_int X) rfl rfl (fun _ z => by cases z) rfl (by decide) (by decide) (by decide) vc.1.1 vc.1.2 dd_Mo_init_49 (fun q16 hq => ?_)
  replace vc := vc.2 q16 _ hq rfl
  obtain ⟨w18, h9, vc⟩ := vc
  refine hw_putF X (ff_Mo_25 X) hin rfl rfl h9 dd_Mo_init_51 ?_
  refine hw_aload_n X (Or.inr ⟨_, rfl⟩) dd_Mo_init_54 rfl ?_
  refine hw_bipush X (v := 12) dd_Mo_init_55 (by decide) ?_
  refine hw_newa X (t := 0) (N := 12) (ty := .int) (ac_Mo_int X) rfl rfl (fun _ z => by cases z) rfl (by decide) (by decide) (by decide) vc.1.1 vc.1.2 dd_Mo_init_57 (fun q19 hq => ?_)
  replace vc := vc.2 q19 _ hq rfl
  obtain ⟨w21, h9, vc⟩ := vc
  refine hw_putF X (ff_Mo_28 X) hin rfl rfl h9 dd_Mo_init_59 ?_
  refine hw_aload_n X (Or.inr ⟨_, rfl⟩) dd_Mo_init_62 rfl ?_
  refine hw_bipush X (v := 21) dd_Mo_init_63 (by decide) ?_
  refine hw_newa X (t := 2) (N := 21) (ty := .boolean) (ac_Mo_boolean X) rfl rfl (fun _ z => by cases z) rfl (by decide) (by decide) (by decide) vc.1.1 vc.1.2 dd_Mo_init_65 (fun q22 hq => ?_)
  replace vc := vc.2 q22 _ hq rfl
  obtain ⟨w24, h9, vc⟩ := vc
  refine hw_putF X (ff_Mo_31 X) hin rfl rfl h9 dd_Mo_init_67 ?_
  refine hw_aload_n X (Or.inr ⟨_, rfl⟩) dd_Mo_init_70 rfl ?_
  refine hw_bipush X (v := 21) dd_Mo_init_71 (by decide) ?_
  refine hw_newa X (t := 2) (N := 21) (ty := .boolean) (ac_Mo_boolean X) rfl rfl (fun _ z => by cases z) rfl (by decide) (by decide) (by decide) vc.1.1 vc.1.2 dd_Mo_init_73 (fun q25 hq => ?_)
  replace vc := vc.2 q25 _ hq rfl
  obtain ⟨w27, h9, vc⟩ := vc
  refine hw_putF X (ff_Mo_35 X) hin rfl rfl h9 dd_Mo_init_75 ?_
  exact rt dd_Mo_init_78 vc
end
section
variable {p : Program} {l : Launch} {e : Env} {R : Room} {s : State} {m : MethodId} {args : Array Value} {below : List Frame} {meth : Method} {c : Code} {Q : State → Prop} {g : hw_G} {A : Nat → Prop} {k n : Nat} {w : hw_H}
def vc_Mo_in_0 (l : Launch) (g : hw_G) (R : Room) (K : Nat → Nat → Nat → List (Option Value) → List Value → hw_H → Prop) (PR : Nat → Nat → Int32 → hw_H → Prop) (k n : Nat) (x0 : Int32) (x1 : Int32) (x2 : Int32) (w : hw_H) : Prop := ((x0 < x1) → (PR k n (0 : Int32) w)) ∧ ((¬ x0 < x1) → (((x2 < x0) → (PR k n (0 : Int32) w)) ∧ ((¬ x2 < x0) → (PR k n (1 : Int32) w))))
set_option maxHeartbeats 4000000 in
set_option maxRecDepth 100000 in
theorem sg_Mo_in_0 (X : hw_X p m c cb_Mo_in 3 s args (mw_Mo_in) "ProofCourtModel" g A) {K : Nat → Nat → Nat → List (Option Value) → List Value → hw_H → Prop} {PR : Nat → Nat → Int32 → hw_H → Prop} (hK : ∀ (k n pc : Nat) (lv : List (Option Value)) (st : List Value) (w : hw_H), K k n pc lv st w → hw_J p l e R s m args below meth c Q 3 g A k n pc lv st w) (rt : ∀ {k n pc : Nat} {lv : List (Option Value)} {x : Int32} {w : hw_H}, decode cb_Mo_in pc = .ok (.ireturn, 1) → PR k n x w → hw_J p l e R s m args below meth c Q 3 g A k n pc lv [.int x] w) {x0 : Int32} {x1 : Int32} {x2 : Int32} (vc : vc_Mo_in_0 l g R K PR k n x0 x1 x2 w) : hw_J p l e R s m args below meth c Q 3 g A k n 0 [some (.int x0), some (.int x1), some (.int x2)] [] w := by
  unfold vc_Mo_in_0 at vc
  refine hw_iload_n X dd_Mo_in_0 rfl ?_
  refine hw_iload_n X dd_Mo_in_1 rfl ?_
  refine hw_icmp_lt X (tgt := 14) dd_Mo_in_2 rfl (fun hc => ?_) (fun hc => ?_)
  · replace vc := vc.1 hc
    refine hw_iconst X (v := 0) dd_Mo_in_14 (by decide) ?_
    exact rt dd_Mo_in_15 vc
  · replace vc := vc.2 hc
    refine hw_iload_n X dd_Mo_in_5 rfl ?_
    refine hw_iload_n X dd_Mo_in_6 rfl ?_
    refine hw_icmp_gt X (tgt := 14) dd_Mo_in_7 rfl (fun hc => ?_) (fun hc => ?_)
    · replace vc := vc.1 hc
      refine hw_iconst X (v := 0) dd_Mo_in_14 (by decide) ?_
      exact rt dd_Mo_in_15 vc
    · replace vc := vc.2 hc
      refine hw_iconst X (v := 1) dd_Mo_in_10 (by decide) ?_
      refine hw_goto X (tgt := 15) dd_Mo_in_11 rfl ?_
      exact rt dd_Mo_in_15 vc
end
section
variable {p : Program} {l : Launch} {e : Env} {R : Room} {s : State} {m : MethodId} {args : Array Value} {below : List Frame} {meth : Method} {c : Code} {Q : State → Prop} {g : hw_G} {A : Nat → Prop} {k n : Nat} {w : hw_H}
def vc_Mo_type_0 (l : Launch) (g : hw_G) (R : Room) (K : Nat → Nat → Nat → List (Option Value) → List Value → hw_H → Prop) (PR : Nat → Nat → Int32 → hw_H → Prop) (k n : Nat) (a0 : Nat) (x1 : Int32) (x2 : Int32) (w : hw_H) : Prop := hw_ci l g R k n ym_Mo_in (mw_Mo_in) 3 [.int x2, .int (1 : Int32), .int (4 : Int32)] w (fun (k2 n3 : Nat) (x_4 : Int32) (w1 : hw_H) => ((x_4 = 0) → (K k2 n3 30 [some (.ref a0), some (.int x1), some (.int x2), some (.int (0 : Int32)), some (.int (0 : Int32)), none] [] w1)) ∧ ((¬ x_4 = 0) → (∃ x_5 : Int32, hw_g w1 a0 8 1 (.int x_5) ∧ ((((160 : Int32) < (x_5 + x2)) → (K k2 n3 30 [some (.ref a0), some (.int x1), some (.int x2), some (.int (0 : Int32)), some (.int (0 : Int32)), none] [] w1)) ∧ ((¬ (160 : Int32) < (x_5 + x2)) → (K k2 n3 30 [some (.ref a0), some (.int x1), some (.int x2), some (.int (1 : Int32)), some (.int (0 : Int32)), none] [] w1))))))
set_option maxHeartbeats 4000000 in
set_option maxRecDepth 100000 in
theorem sg_Mo_type_0 (X : hw_X p m c cb_Mo_type 6 s args (mw_Mo_type) "ProofCourtModel" g A) {K : Nat → Nat → Nat → List (Option Value) → List Value → hw_H → Prop} {PR : Nat → Nat → Int32 → hw_H → Prop} (hK : ∀ (k n pc : Nat) (lv : List (Option Value)) (st : List Value) (w : hw_H), K k n pc lv st w → hw_J p l e R s m args below meth c Q 6 g A k n pc lv st w) (rt : ∀ {k n pc : Nat} {lv : List (Option Value)} {x : Int32} {w : hw_H}, decode cb_Mo_type pc = .ok (.ireturn, 1) → PR k n x w → hw_J p l e R s m args below meth c Q 6 g A k n pc lv [.int x] w) {a0 : Nat} {x1 : Int32} {x2 : Int32} (vc : vc_Mo_type_0 l g R K PR k n a0 x1 x2 w) : hw_J p l e R s m args below meth c Q 6 g A k n 0 [some (.ref a0), some (.int x1), some (.int x2), none, none, none] [] w := by
  unfold vc_Mo_type_0 at vc
  refine hw_iload_n X dd_Mo_type_0 rfl ?_
  refine hw_iconst X (v := 1) dd_Mo_type_1 (by decide) ?_
  refine hw_iconst X (v := 4) dd_Mo_type_2 (by decide) ?_
  obtain ⟨rm9, po9, hM9, hf9, hc9, vc⟩ := vc
  refine hw_callSi X (As := [.int x2, .int (1 : Int32), .int (4 : Int32)]) (ye_Mo_38 X) hM9 rfl hf9 hc9 (Nat.le_of_ble_eq_true rfl) rfl dd_Mo_type_3 (fun x_4 w1 hp => ?_)
  replace vc := vc x_4 w1 hp
  refine hw_if_eq X (tgt := 25) dd_Mo_type_6 rfl (fun hc => ?_) (fun hc => ?_)
  · replace vc := vc.1 hc
    refine hw_iconst X (v := 0) dd_Mo_type_25 (by decide) ?_
    refine hw_istore_n X dd_Mo_type_26 (by decide) rfl ?_
    refine hw_iconst X (v := 0) dd_Mo_type_27 (by decide) ?_
    refine hw_istore X dd_Mo_type_28 (by decide) rfl ?_
    exact hK _ _ _ _ _ _ vc
  · replace vc := vc.2 hc
    refine hw_aload_n X (Or.inr ⟨_, rfl⟩) dd_Mo_type_9 rfl ?_
    obtain ⟨x_5, h9, vc⟩ := vc
    refine hw_get X (fe_Mo_42 X) h9 dd_Mo_type_10 ?_
    refine hw_iload_n X dd_Mo_type_13 rfl ?_
    refine hw_iadd X dd_Mo_type_14 ?_
    refine hw_sipush X (v := 160) dd_Mo_type_15 (by decide) ?_
    refine hw_icmp_gt X (tgt := 25) dd_Mo_type_18 rfl (fun hc => ?_) (fun hc => ?_)
    · replace vc := vc.1 hc
      refine hw_iconst X (v := 0) dd_Mo_type_25 (by decide) ?_
      refine hw_istore_n X dd_Mo_type_26 (by decide) rfl ?_
      refine hw_iconst X (v := 0) dd_Mo_type_27 (by decide) ?_
      refine hw_istore X dd_Mo_type_28 (by decide) rfl ?_
      exact hK _ _ _ _ _ _ vc
    · replace vc := vc.2 hc
      refine hw_iconst X (v := 1) dd_Mo_type_21 (by decide) ?_
      refine hw_goto X (tgt := 26) dd_Mo_type_22 rfl ?_
      refine hw_istore_n X dd_Mo_type_26 (by decide) rfl ?_
      refine hw_iconst X (v := 0) dd_Mo_type_27 (by decide) ?_
      refine hw_istore X dd_Mo_type_28 (by decide) rfl ?_
      exact hK _ _ _ _ _ _ vc
def vc_Mo_type_30 (l : Launch) (g : hw_G) (R : Room) (K : Nat → Nat → Nat → List (Option Value) → List Value → hw_H → Prop) (PR : Nat → Nat → Int32 → hw_H → Prop) (k n : Nat) (a0 : Nat) (x1 : Int32) (x2 : Int32) (x3 : Int32) (x4 : Int32) (w : hw_H) : Prop := ((x2 ≤ x4) → (∀ y1 : Int32, y1 = (x2 - (1 : Int32)) → (K k n 89 [some (.ref a0), some (.int x1), some (.int x2), some (.int x3), some (.int y1), none] [] w))) ∧ ((¬ x2 ≤ x4) → (((x3 = 0) → (∀ y2 : Int32, y2 = (x2 - (1 : Int32)) → (K k n 89 [some (.ref a0), some (.int x1), some (.int x2), some (.int x3), some (.int y2), none] [] w))) ∧ ((¬ x3 = 0) → (∀ y3 : Int32, y3 = ((x1 >>> (((8 : Int32) * x4) &&& 31)) &&& (255 : Int32)) → (((y3 = (10 : Int32)) → (K k n 30 [some (.ref a0), some (.int x1), some (.int x2), some (.int (1 : Int32)), some (.int (x4 + 1)), none] [] w)) ∧ ((¬ y3 = (10 : Int32)) → (hw_ci l g R k n ym_Mo_in (mw_Mo_in) 3 [.int y3, .int (32 : Int32), .int (126 : Int32)] w (fun (k5 n6 : Nat) (x_7 : Int32) (w4 : hw_H) => ((x_7 = 0) → (K k5 n6 30 [some (.ref a0), some (.int x1), some (.int x2), some (.int (0 : Int32)), some (.int (x4 + 1)), none] [] w4)) ∧ ((¬ x_7 = 0) → (K k5 n6 30 [some (.ref a0), some (.int x1), some (.int x2), some (.int (1 : Int32)), some (.int (x4 + 1)), none] [] w4))))))))))
set_option maxHeartbeats 4000000 in
set_option maxRecDepth 100000 in
theorem sg_Mo_type_30 (X : hw_X p m c cb_Mo_type 6 s args (mw_Mo_type) "ProofCourtModel" g A) {K : Nat → Nat → Nat → List (Option Value) → List Value → hw_H → Prop} {PR : Nat → Nat → Int32 → hw_H → Prop} (hK : ∀ (k n pc : Nat) (lv : List (Option Value)) (st : List Value) (w : hw_H), K k n pc lv st w → hw_J p l e R s m args below meth c Q 6 g A k n pc lv st w) (rt : ∀ {k n pc : Nat} {lv : List (Option Value)} {x : Int32} {w : hw_H}, decode cb_Mo_type pc = .ok (.ireturn, 1) → PR k n x w → hw_J p l e R s m args below meth c Q 6 g A k n pc lv [.int x] w) {a0 : Nat} {x1 : Int32} {x2 : Int32} {x3 : Int32} {x4 : Int32} (vc : vc_Mo_type_30 l g R K PR k n a0 x1 x2 x3 x4 w) : hw_J p l e R s m args below meth c Q 6 g A k n 30 [some (.ref a0), some (.int x1), some (.int x2), some (.int x3), some (.int x4), none] [] w := by
  unfold vc_Mo_type_30 at vc
  refine hw_iload X dd_Mo_type_30 rfl ?_
  refine hw_iload_n X dd_Mo_type_32 rfl ?_
  refine hw_icmp_ge X (tgt := 84) dd_Mo_type_33 rfl (fun hc => ?_) (fun hc => ?_)
  · replace vc := vc.1 hc
    refine hw_iload_n X dd_Mo_type_84 rfl ?_
    refine hw_iconst X (v := 1) dd_Mo_type_85 (by decide) ?_
    refine hw_isub X dd_Mo_type_86 ?_
    refine hw_top (fun y1 ey1 => ?_)
    replace vc := vc y1 ey1
    refine hw_istore X dd_Mo_type_87 (by decide) rfl ?_
    exact hK _ _ _ _ _ _ vc
  · replace vc := vc.2 hc
    refine hw_iload_n X dd_Mo_type_36 rfl ?_
    refine hw_if_eq X (tgt := 84) dd_Mo_type_37 rfl (fun hc => ?_) (fun hc => ?_)
    · replace vc := vc.1 hc
      refine hw_iload_n X dd_Mo_type_84 rfl ?_
      refine hw_iconst X (v := 1) dd_Mo_type_85 (by decide) ?_
      refine hw_isub X dd_Mo_type_86 ?_
      refine hw_top (fun y2 ey2 => ?_)
      replace vc := vc y2 ey2
      refine hw_istore X dd_Mo_type_87 (by decide) rfl ?_
      exact hK _ _ _ _ _ _ vc
    · replace vc := vc.2 hc
      refine hw_iload_n X dd_Mo_type_40 rfl ?_
      refine hw_bipush X (v := 8) dd_Mo_type_41 (by decide) ?_
      refine hw_iload X dd_Mo_type_43 rfl ?_
      refine hw_imul X dd_Mo_type_45 ?_
      refine hw_ishr X dd_Mo_type_46 ?_
      refine hw_sipush X (v := 255) dd_Mo_type_47 (by decide) ?_
      refine hw_iand X dd_Mo_type_50 ?_
      refine hw_top (fun y3 ey3 => ?_)
      replace vc := vc y3 ey3
      refine hw_istore X dd_Mo_type_51 (by decide) rfl ?_
      refine hw_iload X dd_Mo_type_53 rfl ?_
      refine hw_bipush X (v := 10) dd_Mo_type_55 (by decide) ?_
      refine hw_icmp_eq X (tgt := 72) dd_Mo_type_57 rfl (fun hc => ?_) (fun hc => ?_)
      · replace vc := vc.1 hc
        refine hw_iconst X (v := 1) dd_Mo_type_72 (by decide) ?_
        refine hw_goto X (tgt := 77) dd_Mo_type_73 rfl ?_
        refine hw_istore_n X dd_Mo_type_77 (by decide) rfl ?_
        refine hw_iinc X (v := (x4 + 1)) dd_Mo_type_78 rfl rfl (by decide) rfl ?_
        refine hw_goto X (tgt := 30) dd_Mo_type_81 rfl ?_
        exact hw_drop (lv9 := [some (.ref a0), some (.int x1), some (.int x2), some (.int (1 : Int32)), some (.int (x4 + 1)), none]) (⟨rfl, ⟨rfl, ⟨rfl, ⟨rfl, ⟨rfl, ⟨trivial, trivial⟩⟩⟩⟩⟩⟩) (hK _ _ _ _ _ _ vc)
      · replace vc := vc.2 hc
        refine hw_iload X dd_Mo_type_60 rfl ?_
        refine hw_bipush X (v := 32) dd_Mo_type_62 (by decide) ?_
        refine hw_bipush X (v := 126) dd_Mo_type_64 (by decide) ?_
        obtain ⟨rm9, po9, hM9, hf9, hc9, vc⟩ := vc
        refine hw_callSi X (As := [.int y3, .int (32 : Int32), .int (126 : Int32)]) (ye_Mo_38 X) hM9 rfl hf9 hc9 (Nat.le_of_ble_eq_true rfl) rfl dd_Mo_type_66 (fun x_7 w4 hp => ?_)
        replace vc := vc x_7 w4 hp
        refine hw_if_eq X (tgt := 76) dd_Mo_type_69 rfl (fun hc => ?_) (fun hc => ?_)
        · replace vc := vc.1 hc
          refine hw_iconst X (v := 0) dd_Mo_type_76 (by decide) ?_
          refine hw_istore_n X dd_Mo_type_77 (by decide) rfl ?_
          refine hw_iinc X (v := (x4 + 1)) dd_Mo_type_78 rfl rfl (by decide) rfl ?_
          refine hw_goto X (tgt := 30) dd_Mo_type_81 rfl ?_
          exact hw_drop (lv9 := [some (.ref a0), some (.int x1), some (.int x2), some (.int (0 : Int32)), some (.int (x4 + 1)), none]) (⟨rfl, ⟨rfl, ⟨rfl, ⟨rfl, ⟨rfl, ⟨trivial, trivial⟩⟩⟩⟩⟩⟩) (hK _ _ _ _ _ _ vc)
        · replace vc := vc.2 hc
          refine hw_iconst X (v := 1) dd_Mo_type_72 (by decide) ?_
          refine hw_goto X (tgt := 77) dd_Mo_type_73 rfl ?_
          refine hw_istore_n X dd_Mo_type_77 (by decide) rfl ?_
          refine hw_iinc X (v := (x4 + 1)) dd_Mo_type_78 rfl rfl (by decide) rfl ?_
          refine hw_goto X (tgt := 30) dd_Mo_type_81 rfl ?_
          exact hw_drop (lv9 := [some (.ref a0), some (.int x1), some (.int x2), some (.int (1 : Int32)), some (.int (x4 + 1)), none]) (⟨rfl, ⟨rfl, ⟨rfl, ⟨rfl, ⟨rfl, ⟨trivial, trivial⟩⟩⟩⟩⟩⟩) (hK _ _ _ _ _ _ vc)
def vc_Mo_type_89 (l : Launch) (g : hw_G) (R : Room) (K : Nat → Nat → Nat → List (Option Value) → List Value → hw_H → Prop) (PR : Nat → Nat → Int32 → hw_H → Prop) (k n : Nat) (a0 : Nat) (x1 : Int32) (x2 : Int32) (x3 : Int32) (x4 : Int32) (w : hw_H) : Prop := ((x4 < 0) → (PR k n x3 w)) ∧ ((¬ x4 < 0) → (((x3 = 0) → (PR k n x3 w)) ∧ ((¬ x3 = 0) → (∃ b_1 : Nat, hw_g w a0 8 0 (.ref b_1) ∧ (∃ x_2 : Int32, hw_g w a0 8 1 (.int x_2) ∧ (∃ w3 : hw_H, hw_as g 0 w b_1 x_2 ((x1 >>> (((8 : Int32) * x4) &&& 31)) &&& (255 : Int32)) w3 ∧ (∃ x_4 : Int32, hw_g w3 a0 8 1 (.int x_4) ∧ (∃ w5 : hw_H, hw_p w3 a0 8 1 (.int (x_4 + (1 : Int32))) w5 ∧ (K k n 89 [some (.ref a0), some (.int x1), some (.int x2), some (.int x3), some (.int (x4 + (-1))), none] [] w5)))))))))
set_option maxHeartbeats 4000000 in
set_option maxRecDepth 100000 in
theorem sg_Mo_type_89 (X : hw_X p m c cb_Mo_type 6 s args (mw_Mo_type) "ProofCourtModel" g A) {K : Nat → Nat → Nat → List (Option Value) → List Value → hw_H → Prop} {PR : Nat → Nat → Int32 → hw_H → Prop} (hK : ∀ (k n pc : Nat) (lv : List (Option Value)) (st : List Value) (w : hw_H), K k n pc lv st w → hw_J p l e R s m args below meth c Q 6 g A k n pc lv st w) (rt : ∀ {k n pc : Nat} {lv : List (Option Value)} {x : Int32} {w : hw_H}, decode cb_Mo_type pc = .ok (.ireturn, 1) → PR k n x w → hw_J p l e R s m args below meth c Q 6 g A k n pc lv [.int x] w) {a0 : Nat} {x1 : Int32} {x2 : Int32} {x3 : Int32} {x4 : Int32} (vc : vc_Mo_type_89 l g R K PR k n a0 x1 x2 x3 x4 w) : hw_J p l e R s m args below meth c Q 6 g A k n 89 [some (.ref a0), some (.int x1), some (.int x2), some (.int x3), some (.int x4), none] [] w := by
  unfold vc_Mo_type_89 at vc
  refine hw_iload X dd_Mo_type_89 rfl ?_
  refine hw_if_lt X (tgt := 134) dd_Mo_type_91 rfl (fun hc => ?_) (fun hc => ?_)
  · replace vc := vc.1 hc
    refine hw_iload_n X dd_Mo_type_134 rfl ?_
    exact rt dd_Mo_type_135 vc
  · replace vc := vc.2 hc
    refine hw_iload_n X dd_Mo_type_94 rfl ?_
    refine hw_if_eq X (tgt := 134) dd_Mo_type_95 rfl (fun hc => ?_) (fun hc => ?_)
    · replace vc := vc.1 hc
      refine hw_iload_n X dd_Mo_type_134 rfl ?_
      exact rt dd_Mo_type_135 vc
    · replace vc := vc.2 hc
      refine hw_aload_n X (Or.inr ⟨_, rfl⟩) dd_Mo_type_98 rfl ?_
      obtain ⟨b_1, h9, vc⟩ := vc
      refine hw_get X (fe_Mo_7 X) h9 dd_Mo_type_99 ?_
      refine hw_aload_n X (Or.inr ⟨_, rfl⟩) dd_Mo_type_102 rfl ?_
      obtain ⟨x_2, h9, vc⟩ := vc
      refine hw_get X (fe_Mo_42 X) h9 dd_Mo_type_103 ?_
      refine hw_iload_n X dd_Mo_type_106 rfl ?_
      refine hw_bipush X (v := 8) dd_Mo_type_107 (by decide) ?_
      refine hw_iload X dd_Mo_type_109 rfl ?_
      refine hw_imul X dd_Mo_type_111 ?_
      refine hw_ishr X dd_Mo_type_112 ?_
      refine hw_sipush X (v := 255) dd_Mo_type_113 (by decide) ?_
      refine hw_iand X dd_Mo_type_116 ?_
      obtain ⟨w3, h9, vc⟩ := vc
      refine hw_iast X h9 dd_Mo_type_117 ?_
      refine hw_aload_n X (Or.inr ⟨_, rfl⟩) dd_Mo_type_118 rfl ?_
      refine hw_aload_n X (Or.inr ⟨_, rfl⟩) dd_Mo_type_119 rfl ?_
      obtain ⟨x_4, h9, vc⟩ := vc
      refine hw_get X (fe_Mo_42 X) h9 dd_Mo_type_120 ?_
      refine hw_iconst X (v := 1) dd_Mo_type_123 (by decide) ?_
      refine hw_iadd X dd_Mo_type_124 ?_
      obtain ⟨w5, h9, vc⟩ := vc
      refine hw_put X (fp_Mo_42 X) rfl rfl h9 dd_Mo_type_125 ?_
      refine hw_iinc X (v := (x4 + (-1))) dd_Mo_type_128 rfl rfl (by decide) rfl ?_
      refine hw_goto X (tgt := 89) dd_Mo_type_131 rfl ?_
      exact hK _ _ _ _ _ _ vc
end
section
variable {p : Program} {l : Launch} {e : Env} {R : Room} {s : State} {m : MethodId} {args : Array Value} {below : List Frame} {meth : Method} {c : Code} {Q : State → Prop} {g : hw_G} {A : Nat → Prop} {k n : Nat} {w : hw_H}
def vc_Mo_isGap_0 (l : Launch) (g : hw_G) (R : Room) (K : Nat → Nat → Nat → List (Option Value) → List Value → hw_H → Prop) (PR : Nat → Nat → Int32 → hw_H → Prop) (k n : Nat) (a0 : Nat) (x1 : Int32) (w : hw_H) : Prop := ∃ b_1 : Nat, hw_g w a0 8 0 (.ref b_1) ∧ (∃ x_2 : Int32, hw_ai g 0 w b_1 x1 x_2 ∧ (((x_2 = (32 : Int32)) → (PR k n (1 : Int32) w)) ∧ ((¬ x_2 = (32 : Int32)) → (∃ b_3 : Nat, hw_g w a0 8 0 (.ref b_3) ∧ (∃ x_4 : Int32, hw_ai g 0 w b_3 x1 x_4 ∧ (((¬ x_4 = (10 : Int32)) → (PR k n (0 : Int32) w)) ∧ ((x_4 = (10 : Int32)) → (PR k n (1 : Int32) w))))))))
set_option maxHeartbeats 4000000 in
set_option maxRecDepth 100000 in
theorem sg_Mo_isGap_0 (X : hw_X p m c cb_Mo_isGap 2 s args (mw_Mo_isGap) "ProofCourtModel" g A) {K : Nat → Nat → Nat → List (Option Value) → List Value → hw_H → Prop} {PR : Nat → Nat → Int32 → hw_H → Prop} (hK : ∀ (k n pc : Nat) (lv : List (Option Value)) (st : List Value) (w : hw_H), K k n pc lv st w → hw_J p l e R s m args below meth c Q 2 g A k n pc lv st w) (rt : ∀ {k n pc : Nat} {lv : List (Option Value)} {x : Int32} {w : hw_H}, decode cb_Mo_isGap pc = .ok (.ireturn, 1) → PR k n x w → hw_J p l e R s m args below meth c Q 2 g A k n pc lv [.int x] w) {a0 : Nat} {x1 : Int32} (vc : vc_Mo_isGap_0 l g R K PR k n a0 x1 w) : hw_J p l e R s m args below meth c Q 2 g A k n 0 [some (.ref a0), some (.int x1)] [] w := by
  unfold vc_Mo_isGap_0 at vc
  refine hw_aload_n X (Or.inr ⟨_, rfl⟩) dd_Mo_isGap_0 rfl ?_
  obtain ⟨b_1, h9, vc⟩ := vc
  refine hw_get X (fe_Mo_7 X) h9 dd_Mo_isGap_1 ?_
  refine hw_iload_n X dd_Mo_isGap_4 rfl ?_
  obtain ⟨x_2, h9, vc⟩ := vc
  refine hw_iald X h9 dd_Mo_isGap_5 ?_
  refine hw_bipush X (v := 32) dd_Mo_isGap_6 (by decide) ?_
  refine hw_icmp_eq X (tgt := 22) dd_Mo_isGap_8 rfl (fun hc => ?_) (fun hc => ?_)
  · replace vc := vc.1 hc
    refine hw_iconst X (v := 1) dd_Mo_isGap_22 (by decide) ?_
    refine hw_goto X (tgt := 27) dd_Mo_isGap_23 rfl ?_
    exact rt dd_Mo_isGap_27 vc
  · replace vc := vc.2 hc
    refine hw_aload_n X (Or.inr ⟨_, rfl⟩) dd_Mo_isGap_11 rfl ?_
    obtain ⟨b_3, h9, vc⟩ := vc
    refine hw_get X (fe_Mo_7 X) h9 dd_Mo_isGap_12 ?_
    refine hw_iload_n X dd_Mo_isGap_15 rfl ?_
    obtain ⟨x_4, h9, vc⟩ := vc
    refine hw_iald X h9 dd_Mo_isGap_16 ?_
    refine hw_bipush X (v := 10) dd_Mo_isGap_17 (by decide) ?_
    refine hw_icmp_ne X (tgt := 26) dd_Mo_isGap_19 rfl (fun hc => ?_) (fun hc => ?_)
    · replace vc := vc.1 hc
      refine hw_iconst X (v := 0) dd_Mo_isGap_26 (by decide) ?_
      exact rt dd_Mo_isGap_27 vc
    · replace vc := vc.2 hc
      refine hw_iconst X (v := 1) dd_Mo_isGap_22 (by decide) ?_
      refine hw_goto X (tgt := 27) dd_Mo_isGap_23 rfl ?_
      exact rt dd_Mo_isGap_27 vc
end
section
variable {p : Program} {l : Launch} {e : Env} {R : Room} {s : State} {m : MethodId} {args : Array Value} {below : List Frame} {meth : Method} {c : Code} {Q : State → Prop} {g : hw_G} {A : Nat → Prop} {k n : Nat} {w : hw_H}
def vc_Mo_cut_0 (l : Launch) (g : hw_G) (R : Room) (K : Nat → Nat → Nat → List (Option Value) → List Value → hw_H → Prop) (PR : Nat → Nat → hw_H → Prop) (k n : Nat) (a0 : Nat) (x1 : Int32) (w : hw_H) : Prop := ∃ w1 : hw_H, hw_p w a0 8 2 (.int (0 : Int32)) w1 ∧ (∃ w2 : hw_H, hw_p w1 a0 8 5 (.int (0 : Int32)) w2 ∧ (∃ w3 : hw_H, hw_p w2 a0 8 7 (.int (-1 : Int32)) w3 ∧ (∃ x_4 : Int32, hw_g w3 a0 8 1 (.int x_4) ∧ (∃ w5 : hw_H, hw_p w3 a0 8 6 (.int x_4) w5 ∧ (∃ w6 : hw_H, hw_p w5 a0 8 1 (.int (0 : Int32)) w6 ∧ (K k n 35 [some (.ref a0), some (.int x1), some (.int (1 : Int32)), some (.int (0 : Int32)), some (.int (0 : Int32)), none] [] w6))))))
set_option maxHeartbeats 4000000 in
set_option maxRecDepth 100000 in
theorem sg_Mo_cut_0 (X : hw_X p m c cb_Mo_cut 6 s args (mw_Mo_cut) "ProofCourtModel" g A) {K : Nat → Nat → Nat → List (Option Value) → List Value → hw_H → Prop} {PR : Nat → Nat → hw_H → Prop} (hK : ∀ (k n pc : Nat) (lv : List (Option Value)) (st : List Value) (w : hw_H), K k n pc lv st w → hw_J p l e R s m args below meth c Q 6 g A k n pc lv st w) (rt : ∀ {k n pc : Nat} {lv : List (Option Value)} {w : hw_H}, decode cb_Mo_cut pc = .ok (.return_, 1) → PR k n w → hw_J p l e R s m args below meth c Q 6 g A k n pc lv [] w) {a0 : Nat} {x1 : Int32} (vc : vc_Mo_cut_0 l g R K PR k n a0 x1 w) : hw_J p l e R s m args below meth c Q 6 g A k n 0 [some (.ref a0), some (.int x1), none, none, none, none] [] w := by
  unfold vc_Mo_cut_0 at vc
  refine hw_aload_n X (Or.inr ⟨_, rfl⟩) dd_Mo_cut_0 rfl ?_
  refine hw_iconst X (v := 0) dd_Mo_cut_1 (by decide) ?_
  obtain ⟨w1, h9, vc⟩ := vc
  refine hw_put X (fp_Mo_46 X) rfl rfl h9 dd_Mo_cut_2 ?_
  refine hw_aload_n X (Or.inr ⟨_, rfl⟩) dd_Mo_cut_5 rfl ?_
  refine hw_iconst X (v := 0) dd_Mo_cut_6 (by decide) ?_
  obtain ⟨w2, h9, vc⟩ := vc
  refine hw_put X (fp_Mo_49 X) rfl rfl h9 dd_Mo_cut_7 ?_
  refine hw_aload_n X (Or.inr ⟨_, rfl⟩) dd_Mo_cut_10 rfl ?_
  refine hw_iconst X (v := -1) dd_Mo_cut_11 (by decide) ?_
  obtain ⟨w3, h9, vc⟩ := vc
  refine hw_put X (fp_Mo_52 X) rfl rfl h9 dd_Mo_cut_12 ?_
  refine hw_aload_n X (Or.inr ⟨_, rfl⟩) dd_Mo_cut_15 rfl ?_
  refine hw_aload_n X (Or.inr ⟨_, rfl⟩) dd_Mo_cut_16 rfl ?_
  obtain ⟨x_4, h9, vc⟩ := vc
  refine hw_get X (fe_Mo_42 X) h9 dd_Mo_cut_17 ?_
  obtain ⟨w5, h9, vc⟩ := vc
  refine hw_put X (fp_Mo_55 X) rfl rfl h9 dd_Mo_cut_20 ?_
  refine hw_aload_n X (Or.inr ⟨_, rfl⟩) dd_Mo_cut_23 rfl ?_
  refine hw_iconst X (v := 0) dd_Mo_cut_24 (by decide) ?_
  obtain ⟨w6, h9, vc⟩ := vc
  refine hw_put X (fp_Mo_42 X) rfl rfl h9 dd_Mo_cut_25 ?_
  refine hw_iconst X (v := 1) dd_Mo_cut_28 (by decide) ?_
  refine hw_istore_n X dd_Mo_cut_29 (by decide) rfl ?_
  refine hw_iconst X (v := 0) dd_Mo_cut_30 (by decide) ?_
  refine hw_istore_n X dd_Mo_cut_31 (by decide) rfl ?_
  refine hw_iconst X (v := 0) dd_Mo_cut_32 (by decide) ?_
  refine hw_istore X dd_Mo_cut_33 (by decide) rfl ?_
  exact hK _ _ _ _ _ _ vc
def vc_Mo_cut_35 (l : Launch) (g : hw_G) (R : Room) (K : Nat → Nat → Nat → List (Option Value) → List Value → hw_H → Prop) (PR : Nat → Nat → hw_H → Prop) (k n : Nat) (a0 : Nat) (x1 : Int32) (x2 : Int32) (x3 : Int32) (x4 : Int32) (w : hw_H) : Prop := ∃ x_1 : Int32, hw_g w a0 8 6 (.int x_1) ∧ (((x_1 ≤ x4) → (PR k n w)) ∧ ((¬ x_1 ≤ x4) → (hw_o w a0 "ProofCourtModel" ∧ hw_ci l g R k n ym_Mo_isGap (mw_Mo_isGap) 2 [.ref a0, .int x4] w (fun (k3 n4 : Nat) (x_5 : Int32) (w2 : hw_H) => ((x_5 = 0) → (K k3 n4 110 [some (.ref a0), some (.int x1), some (.int x2), some (.int x3), some (.int x4), some (.int x4)] [] w2)) ∧ ((¬ x_5 = 0) → (((¬ x2 = 0) → (((x3 = 0) → (∀ y6 : Int32, y6 = (x4 + (1 : Int32)) → (K k3 n4 35 [some (.ref a0), some (.int x1), some (.int (1 : Int32)), some (.int (0 : Int32)), some (.int y6), none] [] w2))) ∧ ((¬ x3 = 0) → (∃ b_7 : Nat, hw_g w2 a0 8 0 (.ref b_7) ∧ (∃ x_8 : Int32, hw_ai g 0 w2 b_7 x4 x_8 ∧ (((x_8 = (10 : Int32)) → (∀ y9 : Int32, y9 = (x4 + (1 : Int32)) → (K k3 n4 35 [some (.ref a0), some (.int x1), some (.int (1 : Int32)), some (.int (0 : Int32)), some (.int y9), none] [] w2))) ∧ ((¬ x_8 = (10 : Int32)) → (∀ y10 : Int32, y10 = (x4 + (1 : Int32)) → (K k3 n4 35 [some (.ref a0), some (.int x1), some (.int (1 : Int32)), some (.int (1 : Int32)), some (.int y10), none] [] w2))))))))) ∧ ((x2 = 0) → (∃ b_11 : Nat, hw_g w2 a0 8 0 (.ref b_11) ∧ (∃ x_12 : Int32, hw_ai g 0 w2 b_11 x4 x_12 ∧ (((¬ x_12 = (10 : Int32)) → (((x3 = 0) → (∀ y13 : Int32, y13 = (x4 + (1 : Int32)) → (K k3 n4 35 [some (.ref a0), some (.int x1), some (.int (0 : Int32)), some (.int (0 : Int32)), some (.int y13), none] [] w2))) ∧ ((¬ x3 = 0) → (∃ b_14 : Nat, hw_g w2 a0 8 0 (.ref b_14) ∧ (∃ x_15 : Int32, hw_ai g 0 w2 b_14 x4 x_15 ∧ (((x_15 = (10 : Int32)) → (∀ y16 : Int32, y16 = (x4 + (1 : Int32)) → (K k3 n4 35 [some (.ref a0), some (.int x1), some (.int (0 : Int32)), some (.int (0 : Int32)), some (.int y16), none] [] w2))) ∧ ((¬ x_15 = (10 : Int32)) → (∀ y17 : Int32, y17 = (x4 + (1 : Int32)) → (K k3 n4 35 [some (.ref a0), some (.int x1), some (.int (0 : Int32)), some (.int (1 : Int32)), some (.int y17), none] [] w2))))))))) ∧ ((x_12 = (10 : Int32)) → (((x3 = 0) → (∀ y18 : Int32, y18 = (x4 + (1 : Int32)) → (K k3 n4 35 [some (.ref a0), some (.int x1), some (.int (1 : Int32)), some (.int (0 : Int32)), some (.int y18), none] [] w2))) ∧ ((¬ x3 = 0) → (∃ b_19 : Nat, hw_g w2 a0 8 0 (.ref b_19) ∧ (∃ x_20 : Int32, hw_ai g 0 w2 b_19 x4 x_20 ∧ (((x_20 = (10 : Int32)) → (∀ y21 : Int32, y21 = (x4 + (1 : Int32)) → (K k3 n4 35 [some (.ref a0), some (.int x1), some (.int (1 : Int32)), some (.int (0 : Int32)), some (.int y21), none] [] w2))) ∧ ((¬ x_20 = (10 : Int32)) → (∀ y22 : Int32, y22 = (x4 + (1 : Int32)) → (K k3 n4 35 [some (.ref a0), some (.int x1), some (.int (1 : Int32)), some (.int (1 : Int32)), some (.int y22), none] [] w2)))))))))))))))))))
set_option maxHeartbeats 4000000 in
set_option maxRecDepth 100000 in
theorem sg_Mo_cut_35 (X : hw_X p m c cb_Mo_cut 6 s args (mw_Mo_cut) "ProofCourtModel" g A) {K : Nat → Nat → Nat → List (Option Value) → List Value → hw_H → Prop} {PR : Nat → Nat → hw_H → Prop} (hK : ∀ (k n pc : Nat) (lv : List (Option Value)) (st : List Value) (w : hw_H), K k n pc lv st w → hw_J p l e R s m args below meth c Q 6 g A k n pc lv st w) (rt : ∀ {k n pc : Nat} {lv : List (Option Value)} {w : hw_H}, decode cb_Mo_cut pc = .ok (.return_, 1) → PR k n w → hw_J p l e R s m args below meth c Q 6 g A k n pc lv [] w) {a0 : Nat} {x1 : Int32} {x2 : Int32} {x3 : Int32} {x4 : Int32} (vc : vc_Mo_cut_35 l g R K PR k n a0 x1 x2 x3 x4 w) : hw_J p l e R s m args below meth c Q 6 g A k n 35 [some (.ref a0), some (.int x1), some (.int x2), some (.int x3), some (.int x4), none] [] w := by
  unfold vc_Mo_cut_35 at vc
  refine hw_iload X dd_Mo_cut_35 rfl ?_
  refine hw_aload_n X (Or.inr ⟨_, rfl⟩) dd_Mo_cut_37 rfl ?_
  obtain ⟨x_1, h9, vc⟩ := vc
  refine hw_get X (fe_Mo_55 X) h9 dd_Mo_cut_38 ?_
  refine hw_icmp_ge X (tgt := 221) dd_Mo_cut_41 rfl (fun hc => ?_) (fun hc => ?_)
  · replace vc := vc.1 hc
    exact rt dd_Mo_cut_221 vc
  · replace vc := vc.2 hc
    refine hw_aload_n X (Or.inr ⟨_, rfl⟩) dd_Mo_cut_44 rfl ?_
    refine hw_iload X dd_Mo_cut_45 rfl ?_
    obtain ⟨hob, rm9, po9, hM9, hf9, hc9, vc⟩ := vc
    refine hw_callVi X (As := [.int x4]) (ye_Mo_58 X) hM9 rfl hf9 hc9 hob (Nat.le_of_ble_eq_true rfl) rfl dd_Mo_cut_47 (fun x_5 w2 hp => ?_)
    replace vc := vc x_5 w2 hp
    refine hw_if_eq X (tgt := 106) dd_Mo_cut_50 rfl (fun hc => ?_) (fun hc => ?_)
    · replace vc := vc.1 hc
      refine hw_iload X dd_Mo_cut_106 rfl ?_
      refine hw_istore X dd_Mo_cut_108 (by decide) rfl ?_
      exact hK _ _ _ _ _ _ vc
    · replace vc := vc.2 hc
      refine hw_iload_n X dd_Mo_cut_53 rfl ?_
      refine hw_if_ne X (tgt := 69) dd_Mo_cut_54 rfl (fun hc => ?_) (fun hc => ?_)
      · replace vc := vc.1 hc
        refine hw_iconst X (v := 1) dd_Mo_cut_69 (by decide) ?_
        refine hw_goto X (tgt := 74) dd_Mo_cut_70 rfl ?_
        refine hw_istore_n X dd_Mo_cut_74 (by decide) rfl ?_
        refine hw_iload_n X dd_Mo_cut_75 rfl ?_
        refine hw_if_eq X (tgt := 95) dd_Mo_cut_76 rfl (fun hc => ?_) (fun hc => ?_)
        · replace vc := vc.1 hc
          refine hw_iconst X (v := 0) dd_Mo_cut_95 (by decide) ?_
          refine hw_istore_n X dd_Mo_cut_96 (by decide) rfl ?_
          refine hw_iload X dd_Mo_cut_97 rfl ?_
          refine hw_iconst X (v := 1) dd_Mo_cut_99 (by decide) ?_
          refine hw_iadd X dd_Mo_cut_100 ?_
          refine hw_top (fun y6 ey6 => ?_)
          replace vc := vc y6 ey6
          refine hw_istore X dd_Mo_cut_101 (by decide) rfl ?_
          refine hw_goto X (tgt := 35) dd_Mo_cut_103 rfl ?_
          exact hK _ _ _ _ _ _ vc
        · replace vc := vc.2 hc
          refine hw_aload_n X (Or.inr ⟨_, rfl⟩) dd_Mo_cut_79 rfl ?_
          obtain ⟨b_7, h9, vc⟩ := vc
          refine hw_get X (fe_Mo_7 X) h9 dd_Mo_cut_80 ?_
          refine hw_iload X dd_Mo_cut_83 rfl ?_
          obtain ⟨x_8, h9, vc⟩ := vc
          refine hw_iald X h9 dd_Mo_cut_85 ?_
          refine hw_bipush X (v := 10) dd_Mo_cut_86 (by decide) ?_
          refine hw_icmp_eq X (tgt := 95) dd_Mo_cut_88 rfl (fun hc => ?_) (fun hc => ?_)
          · replace vc := vc.1 hc
            refine hw_iconst X (v := 0) dd_Mo_cut_95 (by decide) ?_
            refine hw_istore_n X dd_Mo_cut_96 (by decide) rfl ?_
            refine hw_iload X dd_Mo_cut_97 rfl ?_
            refine hw_iconst X (v := 1) dd_Mo_cut_99 (by decide) ?_
            refine hw_iadd X dd_Mo_cut_100 ?_
            refine hw_top (fun y9 ey9 => ?_)
            replace vc := vc y9 ey9
            refine hw_istore X dd_Mo_cut_101 (by decide) rfl ?_
            refine hw_goto X (tgt := 35) dd_Mo_cut_103 rfl ?_
            exact hK _ _ _ _ _ _ vc
          · replace vc := vc.2 hc
            refine hw_iconst X (v := 1) dd_Mo_cut_91 (by decide) ?_
            refine hw_goto X (tgt := 96) dd_Mo_cut_92 rfl ?_
            refine hw_istore_n X dd_Mo_cut_96 (by decide) rfl ?_
            refine hw_iload X dd_Mo_cut_97 rfl ?_
            refine hw_iconst X (v := 1) dd_Mo_cut_99 (by decide) ?_
            refine hw_iadd X dd_Mo_cut_100 ?_
            refine hw_top (fun y10 ey10 => ?_)
            replace vc := vc y10 ey10
            refine hw_istore X dd_Mo_cut_101 (by decide) rfl ?_
            refine hw_goto X (tgt := 35) dd_Mo_cut_103 rfl ?_
            exact hK _ _ _ _ _ _ vc
      · replace vc := vc.2 hc
        refine hw_aload_n X (Or.inr ⟨_, rfl⟩) dd_Mo_cut_57 rfl ?_
        obtain ⟨b_11, h9, vc⟩ := vc
        refine hw_get X (fe_Mo_7 X) h9 dd_Mo_cut_58 ?_
        refine hw_iload X dd_Mo_cut_61 rfl ?_
        obtain ⟨x_12, h9, vc⟩ := vc
        refine hw_iald X h9 dd_Mo_cut_63 ?_
        refine hw_bipush X (v := 10) dd_Mo_cut_64 (by decide) ?_
        refine hw_icmp_ne X (tgt := 73) dd_Mo_cut_66 rfl (fun hc => ?_) (fun hc => ?_)
        · replace vc := vc.1 hc
          refine hw_iconst X (v := 0) dd_Mo_cut_73 (by decide) ?_
          refine hw_istore_n X dd_Mo_cut_74 (by decide) rfl ?_
          refine hw_iload_n X dd_Mo_cut_75 rfl ?_
          refine hw_if_eq X (tgt := 95) dd_Mo_cut_76 rfl (fun hc => ?_) (fun hc => ?_)
          · replace vc := vc.1 hc
            refine hw_iconst X (v := 0) dd_Mo_cut_95 (by decide) ?_
            refine hw_istore_n X dd_Mo_cut_96 (by decide) rfl ?_
            refine hw_iload X dd_Mo_cut_97 rfl ?_
            refine hw_iconst X (v := 1) dd_Mo_cut_99 (by decide) ?_
            refine hw_iadd X dd_Mo_cut_100 ?_
            refine hw_top (fun y13 ey13 => ?_)
            replace vc := vc y13 ey13
            refine hw_istore X dd_Mo_cut_101 (by decide) rfl ?_
            refine hw_goto X (tgt := 35) dd_Mo_cut_103 rfl ?_
            exact hK _ _ _ _ _ _ vc
          · replace vc := vc.2 hc
            refine hw_aload_n X (Or.inr ⟨_, rfl⟩) dd_Mo_cut_79 rfl ?_
            obtain ⟨b_14, h9, vc⟩ := vc
            refine hw_get X (fe_Mo_7 X) h9 dd_Mo_cut_80 ?_
            refine hw_iload X dd_Mo_cut_83 rfl ?_
            obtain ⟨x_15, h9, vc⟩ := vc
            refine hw_iald X h9 dd_Mo_cut_85 ?_
            refine hw_bipush X (v := 10) dd_Mo_cut_86 (by decide) ?_
            refine hw_icmp_eq X (tgt := 95) dd_Mo_cut_88 rfl (fun hc => ?_) (fun hc => ?_)
            · replace vc := vc.1 hc
              refine hw_iconst X (v := 0) dd_Mo_cut_95 (by decide) ?_
              refine hw_istore_n X dd_Mo_cut_96 (by decide) rfl ?_
              refine hw_iload X dd_Mo_cut_97 rfl ?_
              refine hw_iconst X (v := 1) dd_Mo_cut_99 (by decide) ?_
              refine hw_iadd X dd_Mo_cut_100 ?_
              refine hw_top (fun y16 ey16 => ?_)
              replace vc := vc y16 ey16
              refine hw_istore X dd_Mo_cut_101 (by decide) rfl ?_
              refine hw_goto X (tgt := 35) dd_Mo_cut_103 rfl ?_
              exact hK _ _ _ _ _ _ vc
            · replace vc := vc.2 hc
              refine hw_iconst X (v := 1) dd_Mo_cut_91 (by decide) ?_
              refine hw_goto X (tgt := 96) dd_Mo_cut_92 rfl ?_
              refine hw_istore_n X dd_Mo_cut_96 (by decide) rfl ?_
              refine hw_iload X dd_Mo_cut_97 rfl ?_
              refine hw_iconst X (v := 1) dd_Mo_cut_99 (by decide) ?_
              refine hw_iadd X dd_Mo_cut_100 ?_
              refine hw_top (fun y17 ey17 => ?_)
              replace vc := vc y17 ey17
              refine hw_istore X dd_Mo_cut_101 (by decide) rfl ?_
              refine hw_goto X (tgt := 35) dd_Mo_cut_103 rfl ?_
              exact hK _ _ _ _ _ _ vc
        · replace vc := vc.2 hc
          refine hw_iconst X (v := 1) dd_Mo_cut_69 (by decide) ?_
          refine hw_goto X (tgt := 74) dd_Mo_cut_70 rfl ?_
          refine hw_istore_n X dd_Mo_cut_74 (by decide) rfl ?_
          refine hw_iload_n X dd_Mo_cut_75 rfl ?_
          refine hw_if_eq X (tgt := 95) dd_Mo_cut_76 rfl (fun hc => ?_) (fun hc => ?_)
          · replace vc := vc.1 hc
            refine hw_iconst X (v := 0) dd_Mo_cut_95 (by decide) ?_
            refine hw_istore_n X dd_Mo_cut_96 (by decide) rfl ?_
            refine hw_iload X dd_Mo_cut_97 rfl ?_
            refine hw_iconst X (v := 1) dd_Mo_cut_99 (by decide) ?_
            refine hw_iadd X dd_Mo_cut_100 ?_
            refine hw_top (fun y18 ey18 => ?_)
            replace vc := vc y18 ey18
            refine hw_istore X dd_Mo_cut_101 (by decide) rfl ?_
            refine hw_goto X (tgt := 35) dd_Mo_cut_103 rfl ?_
            exact hK _ _ _ _ _ _ vc
          · replace vc := vc.2 hc
            refine hw_aload_n X (Or.inr ⟨_, rfl⟩) dd_Mo_cut_79 rfl ?_
            obtain ⟨b_19, h9, vc⟩ := vc
            refine hw_get X (fe_Mo_7 X) h9 dd_Mo_cut_80 ?_
            refine hw_iload X dd_Mo_cut_83 rfl ?_
            obtain ⟨x_20, h9, vc⟩ := vc
            refine hw_iald X h9 dd_Mo_cut_85 ?_
            refine hw_bipush X (v := 10) dd_Mo_cut_86 (by decide) ?_
            refine hw_icmp_eq X (tgt := 95) dd_Mo_cut_88 rfl (fun hc => ?_) (fun hc => ?_)
            · replace vc := vc.1 hc
              refine hw_iconst X (v := 0) dd_Mo_cut_95 (by decide) ?_
              refine hw_istore_n X dd_Mo_cut_96 (by decide) rfl ?_
              refine hw_iload X dd_Mo_cut_97 rfl ?_
              refine hw_iconst X (v := 1) dd_Mo_cut_99 (by decide) ?_
              refine hw_iadd X dd_Mo_cut_100 ?_
              refine hw_top (fun y21 ey21 => ?_)
              replace vc := vc y21 ey21
              refine hw_istore X dd_Mo_cut_101 (by decide) rfl ?_
              refine hw_goto X (tgt := 35) dd_Mo_cut_103 rfl ?_
              exact hK _ _ _ _ _ _ vc
            · replace vc := vc.2 hc
              refine hw_iconst X (v := 1) dd_Mo_cut_91 (by decide) ?_
              refine hw_goto X (tgt := 96) dd_Mo_cut_92 rfl ?_
              refine hw_istore_n X dd_Mo_cut_96 (by decide) rfl ?_
              refine hw_iload X dd_Mo_cut_97 rfl ?_
              refine hw_iconst X (v := 1) dd_Mo_cut_99 (by decide) ?_
              refine hw_iadd X dd_Mo_cut_100 ?_
              refine hw_top (fun y22 ey22 => ?_)
              replace vc := vc y22 ey22
              refine hw_istore X dd_Mo_cut_101 (by decide) rfl ?_
              refine hw_goto X (tgt := 35) dd_Mo_cut_103 rfl ?_
              exact hK _ _ _ _ _ _ vc
def vc_Mo_cut_110 (l : Launch) (g : hw_G) (R : Room) (K : Nat → Nat → Nat → List (Option Value) → List Value → hw_H → Prop) (PR : Nat → Nat → hw_H → Prop) (k n : Nat) (a0 : Nat) (x1 : Int32) (x2 : Int32) (x3 : Int32) (x4 : Int32) (x5 : Int32) (w : hw_H) : Prop := ∃ x_1 : Int32, hw_g w a0 8 6 (.int x_1) ∧ (((x_1 ≤ x5) → (K k n 137 [some (.ref a0), some (.int x1), some (.int x2), some (.int x3), some (.int x4), some (.int x5)] [] w)) ∧ ((¬ x_1 ≤ x5) → (hw_o w a0 "ProofCourtModel" ∧ hw_ci l g R k n ym_Mo_isGap (mw_Mo_isGap) 2 [.ref a0, .int x5] w (fun (k3 n4 : Nat) (x_5 : Int32) (w2 : hw_H) => ((¬ x_5 = 0) → (K k3 n4 137 [some (.ref a0), some (.int x1), some (.int x2), some (.int x3), some (.int x4), some (.int x5)] [] w2)) ∧ ((x_5 = 0) → (∀ y6 : Int32, y6 = (x5 + (1 : Int32)) → (K k3 n4 110 [some (.ref a0), some (.int x1), some (.int x2), some (.int x3), some (.int x4), some (.int y6)] [] w2)))))))
set_option maxHeartbeats 4000000 in
set_option maxRecDepth 100000 in
theorem sg_Mo_cut_110 (X : hw_X p m c cb_Mo_cut 6 s args (mw_Mo_cut) "ProofCourtModel" g A) {K : Nat → Nat → Nat → List (Option Value) → List Value → hw_H → Prop} {PR : Nat → Nat → hw_H → Prop} (hK : ∀ (k n pc : Nat) (lv : List (Option Value)) (st : List Value) (w : hw_H), K k n pc lv st w → hw_J p l e R s m args below meth c Q 6 g A k n pc lv st w) (rt : ∀ {k n pc : Nat} {lv : List (Option Value)} {w : hw_H}, decode cb_Mo_cut pc = .ok (.return_, 1) → PR k n w → hw_J p l e R s m args below meth c Q 6 g A k n pc lv [] w) {a0 : Nat} {x1 : Int32} {x2 : Int32} {x3 : Int32} {x4 : Int32} {x5 : Int32} (vc : vc_Mo_cut_110 l g R K PR k n a0 x1 x2 x3 x4 x5 w) : hw_J p l e R s m args below meth c Q 6 g A k n 110 [some (.ref a0), some (.int x1), some (.int x2), some (.int x3), some (.int x4), some (.int x5)] [] w := by
  unfold vc_Mo_cut_110 at vc
  refine hw_iload X dd_Mo_cut_110 rfl ?_
  refine hw_aload_n X (Or.inr ⟨_, rfl⟩) dd_Mo_cut_112 rfl ?_
  obtain ⟨x_1, h9, vc⟩ := vc
  refine hw_get X (fe_Mo_55 X) h9 dd_Mo_cut_113 ?_
  refine hw_icmp_ge X (tgt := 137) dd_Mo_cut_116 rfl (fun hc => ?_) (fun hc => ?_)
  · replace vc := vc.1 hc
    exact hK _ _ _ _ _ _ vc
  · replace vc := vc.2 hc
    refine hw_aload_n X (Or.inr ⟨_, rfl⟩) dd_Mo_cut_119 rfl ?_
    refine hw_iload X dd_Mo_cut_120 rfl ?_
    obtain ⟨hob, rm9, po9, hM9, hf9, hc9, vc⟩ := vc
    refine hw_callVi X (As := [.int x5]) (ye_Mo_58 X) hM9 rfl hf9 hc9 hob (Nat.le_of_ble_eq_true rfl) rfl dd_Mo_cut_122 (fun x_5 w2 hp => ?_)
    replace vc := vc x_5 w2 hp
    refine hw_if_ne X (tgt := 137) dd_Mo_cut_125 rfl (fun hc => ?_) (fun hc => ?_)
    · replace vc := vc.1 hc
      exact hK _ _ _ _ _ _ vc
    · replace vc := vc.2 hc
      refine hw_iload X dd_Mo_cut_128 rfl ?_
      refine hw_iconst X (v := 1) dd_Mo_cut_130 (by decide) ?_
      refine hw_iadd X dd_Mo_cut_131 ?_
      refine hw_top (fun y6 ey6 => ?_)
      replace vc := vc y6 ey6
      refine hw_istore X dd_Mo_cut_132 (by decide) rfl ?_
      refine hw_goto X (tgt := 110) dd_Mo_cut_134 rfl ?_
      exact hK _ _ _ _ _ _ vc
def vc_Mo_cut_137 (l : Launch) (g : hw_G) (R : Room) (K : Nat → Nat → Nat → List (Option Value) → List Value → hw_H → Prop) (PR : Nat → Nat → hw_H → Prop) (k n : Nat) (a0 : Nat) (x1 : Int32) (x2 : Int32) (x3 : Int32) (x4 : Int32) (x5 : Int32) (w : hw_H) : Prop := ((¬ x3 = 0) → (K k n 35 [some (.ref a0), some (.int x1), some (.int (0 : Int32)), some (.int (1 : Int32)), some (.int x5), none] [] w)) ∧ ((x3 = 0) → (((x1 = 0) → (K k n 174 [some (.ref a0), some (.int x1), some (.int x2), some (.int x3), some (.int x4), some (.int x5)] [] w)) ∧ ((¬ x1 = 0) → (((x2 = 0) → (K k n 174 [some (.ref a0), some (.int x1), some (.int x2), some (.int x3), some (.int x4), some (.int x5)] [] w)) ∧ ((¬ x2 = 0) → (((¬ x5 = (x4 + (1 : Int32))) → (K k n 174 [some (.ref a0), some (.int x1), some (.int x2), some (.int x3), some (.int x4), some (.int x5)] [] w)) ∧ ((x5 = (x4 + (1 : Int32))) → (∃ b_1 : Nat, hw_g w a0 8 0 (.ref b_1) ∧ (∃ x_2 : Int32, hw_ai g 0 w b_1 x4 x_2 ∧ (((¬ x_2 = (99 : Int32)) → (K k n 174 [some (.ref a0), some (.int x1), some (.int x2), some (.int x3), some (.int x4), some (.int x5)] [] w)) ∧ ((x_2 = (99 : Int32)) → (K k n 35 [some (.ref a0), some (.int x1), some (.int (0 : Int32)), some (.int (1 : Int32)), some (.int x5), none] [] w))))))))))))
set_option maxHeartbeats 4000000 in
set_option maxRecDepth 100000 in
theorem sg_Mo_cut_137 (X : hw_X p m c cb_Mo_cut 6 s args (mw_Mo_cut) "ProofCourtModel" g A) {K : Nat → Nat → Nat → List (Option Value) → List Value → hw_H → Prop} {PR : Nat → Nat → hw_H → Prop} (hK : ∀ (k n pc : Nat) (lv : List (Option Value)) (st : List Value) (w : hw_H), K k n pc lv st w → hw_J p l e R s m args below meth c Q 6 g A k n pc lv st w) (rt : ∀ {k n pc : Nat} {lv : List (Option Value)} {w : hw_H}, decode cb_Mo_cut pc = .ok (.return_, 1) → PR k n w → hw_J p l e R s m args below meth c Q 6 g A k n pc lv [] w) {a0 : Nat} {x1 : Int32} {x2 : Int32} {x3 : Int32} {x4 : Int32} {x5 : Int32} (vc : vc_Mo_cut_137 l g R K PR k n a0 x1 x2 x3 x4 x5 w) : hw_J p l e R s m args below meth c Q 6 g A k n 137 [some (.ref a0), some (.int x1), some (.int x2), some (.int x3), some (.int x4), some (.int x5)] [] w := by
  unfold vc_Mo_cut_137 at vc
  refine hw_iload_n X dd_Mo_cut_137 rfl ?_
  refine hw_if_ne X (tgt := 170) dd_Mo_cut_138 rfl (fun hc => ?_) (fun hc => ?_)
  · replace vc := vc.1 hc
    refine hw_iconst X (v := 1) dd_Mo_cut_170 (by decide) ?_
    refine hw_goto X (tgt := 175) dd_Mo_cut_171 rfl ?_
    refine hw_istore_n X dd_Mo_cut_175 (by decide) rfl ?_
    refine hw_iload_n X dd_Mo_cut_176 rfl ?_
    refine hw_if_ne X (tgt := 212) dd_Mo_cut_177 rfl (fun _ => ?_) (fun hc => absurd hc (by decide))
    refine hw_iconst X (v := 0) dd_Mo_cut_212 (by decide) ?_
    refine hw_istore_n X dd_Mo_cut_213 (by decide) rfl ?_
    refine hw_iload X dd_Mo_cut_214 rfl ?_
    refine hw_istore X dd_Mo_cut_216 (by decide) rfl ?_
    refine hw_goto X (tgt := 35) dd_Mo_cut_218 rfl ?_
    exact hw_drop (lv9 := [some (.ref a0), some (.int x1), some (.int (0 : Int32)), some (.int (1 : Int32)), some (.int x5), none]) (⟨rfl, ⟨rfl, ⟨rfl, ⟨rfl, ⟨rfl, ⟨trivial, trivial⟩⟩⟩⟩⟩⟩) (hK _ _ _ _ _ _ vc)
  · replace vc := vc.2 hc
    refine hw_iload_n X dd_Mo_cut_141 rfl ?_
    refine hw_if_eq X (tgt := 174) dd_Mo_cut_142 rfl (fun hc => ?_) (fun hc => ?_)
    · replace vc := vc.1 hc
      exact hK _ _ _ _ _ _ vc
    · replace vc := vc.2 hc
      refine hw_iload_n X dd_Mo_cut_145 rfl ?_
      refine hw_if_eq X (tgt := 174) dd_Mo_cut_146 rfl (fun hc => ?_) (fun hc => ?_)
      · replace vc := vc.1 hc
        exact hK _ _ _ _ _ _ vc
      · replace vc := vc.2 hc
        refine hw_iload X dd_Mo_cut_149 rfl ?_
        refine hw_iload X dd_Mo_cut_151 rfl ?_
        refine hw_iconst X (v := 1) dd_Mo_cut_153 (by decide) ?_
        refine hw_iadd X dd_Mo_cut_154 ?_
        refine hw_icmp_ne X (tgt := 174) dd_Mo_cut_155 rfl (fun hc => ?_) (fun hc => ?_)
        · replace vc := vc.1 hc
          exact hK _ _ _ _ _ _ vc
        · replace vc := vc.2 hc
          refine hw_aload_n X (Or.inr ⟨_, rfl⟩) dd_Mo_cut_158 rfl ?_
          obtain ⟨b_1, h9, vc⟩ := vc
          refine hw_get X (fe_Mo_7 X) h9 dd_Mo_cut_159 ?_
          refine hw_iload X dd_Mo_cut_162 rfl ?_
          obtain ⟨x_2, h9, vc⟩ := vc
          refine hw_iald X h9 dd_Mo_cut_164 ?_
          refine hw_bipush X (v := 99) dd_Mo_cut_165 (by decide) ?_
          refine hw_icmp_ne X (tgt := 174) dd_Mo_cut_167 rfl (fun hc => ?_) (fun hc => ?_)
          · replace vc := vc.1 hc
            exact hK _ _ _ _ _ _ vc
          · replace vc := vc.2 hc
            refine hw_iconst X (v := 1) dd_Mo_cut_170 (by decide) ?_
            refine hw_goto X (tgt := 175) dd_Mo_cut_171 rfl ?_
            refine hw_istore_n X dd_Mo_cut_175 (by decide) rfl ?_
            refine hw_iload_n X dd_Mo_cut_176 rfl ?_
            refine hw_if_ne X (tgt := 212) dd_Mo_cut_177 rfl (fun _ => ?_) (fun hc => absurd hc (by decide))
            refine hw_iconst X (v := 0) dd_Mo_cut_212 (by decide) ?_
            refine hw_istore_n X dd_Mo_cut_213 (by decide) rfl ?_
            refine hw_iload X dd_Mo_cut_214 rfl ?_
            refine hw_istore X dd_Mo_cut_216 (by decide) rfl ?_
            refine hw_goto X (tgt := 35) dd_Mo_cut_218 rfl ?_
            exact hw_drop (lv9 := [some (.ref a0), some (.int x1), some (.int (0 : Int32)), some (.int (1 : Int32)), some (.int x5), none]) (⟨rfl, ⟨rfl, ⟨rfl, ⟨rfl, ⟨rfl, ⟨trivial, trivial⟩⟩⟩⟩⟩⟩) (hK _ _ _ _ _ _ vc)
def vc_Mo_cut_174 (l : Launch) (g : hw_G) (R : Room) (K : Nat → Nat → Nat → List (Option Value) → List Value → hw_H → Prop) (PR : Nat → Nat → hw_H → Prop) (k n : Nat) (a0 : Nat) (x1 : Int32) (x2 : Int32) (x3 : Int32) (x4 : Int32) (x5 : Int32) (w : hw_H) : Prop := ∃ b_1 : Nat, hw_g w a0 8 3 (.ref b_1) ∧ (∃ x_2 : Int32, hw_g w a0 8 2 (.int x_2) ∧ (∃ w3 : hw_H, hw_as g 0 w b_1 x_2 x4 w3 ∧ (∃ b_4 : Nat, hw_g w3 a0 8 4 (.ref b_4) ∧ (∃ x_5 : Int32, hw_g w3 a0 8 2 (.int x_5) ∧ (∃ w6 : hw_H, hw_as g 0 w3 b_4 x_5 x5 w6 ∧ (∃ x_7 : Int32, hw_g w6 a0 8 2 (.int x_7) ∧ (∃ w8 : hw_H, hw_p w6 a0 8 2 (.int (x_7 + (1 : Int32))) w8 ∧ (K k n 35 [some (.ref a0), some (.int x1), some (.int (0 : Int32)), some (.int (0 : Int32)), some (.int x5), none] [] w8))))))))
set_option maxHeartbeats 4000000 in
set_option maxRecDepth 100000 in
theorem sg_Mo_cut_174 (X : hw_X p m c cb_Mo_cut 6 s args (mw_Mo_cut) "ProofCourtModel" g A) {K : Nat → Nat → Nat → List (Option Value) → List Value → hw_H → Prop} {PR : Nat → Nat → hw_H → Prop} (hK : ∀ (k n pc : Nat) (lv : List (Option Value)) (st : List Value) (w : hw_H), K k n pc lv st w → hw_J p l e R s m args below meth c Q 6 g A k n pc lv st w) (rt : ∀ {k n pc : Nat} {lv : List (Option Value)} {w : hw_H}, decode cb_Mo_cut pc = .ok (.return_, 1) → PR k n w → hw_J p l e R s m args below meth c Q 6 g A k n pc lv [] w) {a0 : Nat} {x1 : Int32} {x2 : Int32} {x3 : Int32} {x4 : Int32} {x5 : Int32} (vc : vc_Mo_cut_174 l g R K PR k n a0 x1 x2 x3 x4 x5 w) : hw_J p l e R s m args below meth c Q 6 g A k n 174 [some (.ref a0), some (.int x1), some (.int x2), some (.int x3), some (.int x4), some (.int x5)] [] w := by
  unfold vc_Mo_cut_174 at vc
  refine hw_iconst X (v := 0) dd_Mo_cut_174 (by decide) ?_
  refine hw_istore_n X dd_Mo_cut_175 (by decide) rfl ?_
  refine hw_iload_n X dd_Mo_cut_176 rfl ?_
  refine hw_if_ne X (tgt := 212) dd_Mo_cut_177 rfl (fun hc => absurd hc (by decide)) (fun _ => ?_)
  refine hw_aload_n X (Or.inr ⟨_, rfl⟩) dd_Mo_cut_180 rfl ?_
  obtain ⟨b_1, h9, vc⟩ := vc
  refine hw_get X (fe_Mo_13 X) h9 dd_Mo_cut_181 ?_
  refine hw_aload_n X (Or.inr ⟨_, rfl⟩) dd_Mo_cut_184 rfl ?_
  obtain ⟨x_2, h9, vc⟩ := vc
  refine hw_get X (fe_Mo_46 X) h9 dd_Mo_cut_185 ?_
  refine hw_iload X dd_Mo_cut_188 rfl ?_
  obtain ⟨w3, h9, vc⟩ := vc
  refine hw_iast X h9 dd_Mo_cut_190 ?_
  refine hw_aload_n X (Or.inr ⟨_, rfl⟩) dd_Mo_cut_191 rfl ?_
  obtain ⟨b_4, h9, vc⟩ := vc
  refine hw_get X (fe_Mo_16 X) h9 dd_Mo_cut_192 ?_
  refine hw_aload_n X (Or.inr ⟨_, rfl⟩) dd_Mo_cut_195 rfl ?_
  obtain ⟨x_5, h9, vc⟩ := vc
  refine hw_get X (fe_Mo_46 X) h9 dd_Mo_cut_196 ?_
  refine hw_iload X dd_Mo_cut_199 rfl ?_
  obtain ⟨w6, h9, vc⟩ := vc
  refine hw_iast X h9 dd_Mo_cut_201 ?_
  refine hw_aload_n X (Or.inr ⟨_, rfl⟩) dd_Mo_cut_202 rfl ?_
  refine hw_aload_n X (Or.inr ⟨_, rfl⟩) dd_Mo_cut_203 rfl ?_
  obtain ⟨x_7, h9, vc⟩ := vc
  refine hw_get X (fe_Mo_46 X) h9 dd_Mo_cut_204 ?_
  refine hw_iconst X (v := 1) dd_Mo_cut_207 (by decide) ?_
  refine hw_iadd X dd_Mo_cut_208 ?_
  obtain ⟨w8, h9, vc⟩ := vc
  refine hw_put X (fp_Mo_46 X) rfl rfl h9 dd_Mo_cut_209 ?_
  refine hw_iconst X (v := 0) dd_Mo_cut_212 (by decide) ?_
  refine hw_istore_n X dd_Mo_cut_213 (by decide) rfl ?_
  refine hw_iload X dd_Mo_cut_214 rfl ?_
  refine hw_istore X dd_Mo_cut_216 (by decide) rfl ?_
  refine hw_goto X (tgt := 35) dd_Mo_cut_218 rfl ?_
  exact hw_drop (lv9 := [some (.ref a0), some (.int x1), some (.int (0 : Int32)), some (.int (0 : Int32)), some (.int x5), none]) (⟨rfl, ⟨rfl, ⟨rfl, ⟨rfl, ⟨rfl, ⟨trivial, trivial⟩⟩⟩⟩⟩⟩) (hK _ _ _ _ _ _ vc)
end
section
variable {p : Program} {l : Launch} {e : Env} {R : Room} {s : State} {m : MethodId} {args : Array Value} {below : List Frame} {meth : Method} {c : Code} {Q : State → Prop} {g : hw_G} {A : Nat → Prop} {k n : Nat} {w : hw_H}
def vc_Mo_fail_0 (l : Launch) (g : hw_G) (R : Room) (K : Nat → Nat → Nat → List (Option Value) → List Value → hw_H → Prop) (PR : Nat → Nat → hw_H → Prop) (k n : Nat) (a0 : Nat) (w : hw_H) : Prop := ∃ x_1 : Int32, hw_g w a0 8 7 (.int x_1) ∧ (((x_1 < 0) → (∃ x_2 : Int32, hw_g w a0 8 5 (.int x_2) ∧ (∃ x_3 : Int32, hw_g w a0 8 2 (.int x_3) ∧ (((x_3 ≤ x_2) → (∃ x_4 : Int32, hw_g w a0 8 6 (.int x_4) ∧ (∃ w5 : hw_H, hw_p w a0 8 7 (.int x_4) w5 ∧ (PR k n w5)))) ∧ ((¬ x_3 ≤ x_2) → (∃ b_6 : Nat, hw_g w a0 8 3 (.ref b_6) ∧ (∃ x_7 : Int32, hw_g w a0 8 5 (.int x_7) ∧ (∃ x_8 : Int32, hw_ai g 0 w b_6 x_7 x_8 ∧ (∃ w9 : hw_H, hw_p w a0 8 7 (.int x_8) w9 ∧ (PR k n w9)))))))))) ∧ ((¬ x_1 < 0) → (∃ x_10 : Int32, hw_g w a0 8 7 (.int x_10) ∧ (∃ w11 : hw_H, hw_p w a0 8 7 (.int x_10) w11 ∧ (PR k n w11)))))
set_option maxHeartbeats 4000000 in
set_option maxRecDepth 100000 in
theorem sg_Mo_fail_0 (X : hw_X p m c cb_Mo_fail 1 s args (mw_Mo_fail) "ProofCourtModel" g A) {K : Nat → Nat → Nat → List (Option Value) → List Value → hw_H → Prop} {PR : Nat → Nat → hw_H → Prop} (hK : ∀ (k n pc : Nat) (lv : List (Option Value)) (st : List Value) (w : hw_H), K k n pc lv st w → hw_J p l e R s m args below meth c Q 1 g A k n pc lv st w) (rt : ∀ {k n pc : Nat} {lv : List (Option Value)} {w : hw_H}, decode cb_Mo_fail pc = .ok (.return_, 1) → PR k n w → hw_J p l e R s m args below meth c Q 1 g A k n pc lv [] w) {a0 : Nat} (vc : vc_Mo_fail_0 l g R K PR k n a0 w) : hw_J p l e R s m args below meth c Q 1 g A k n 0 [some (.ref a0)] [] w := by
  unfold vc_Mo_fail_0 at vc
  refine hw_aload_n X (Or.inr ⟨_, rfl⟩) dd_Mo_fail_0 rfl ?_
  refine hw_aload_n X (Or.inr ⟨_, rfl⟩) dd_Mo_fail_1 rfl ?_
  obtain ⟨x_1, h9, vc⟩ := vc
  refine hw_get X (fe_Mo_52 X) h9 dd_Mo_fail_2 ?_
  refine hw_if_lt X (tgt := 15) dd_Mo_fail_5 rfl (fun hc => ?_) (fun hc => ?_)
  · replace vc := vc.1 hc
    refine hw_aload_n X (Or.inr ⟨_, rfl⟩) dd_Mo_fail_15 rfl ?_
    obtain ⟨x_2, h9, vc⟩ := vc
    refine hw_get X (fe_Mo_49 X) h9 dd_Mo_fail_16 ?_
    refine hw_aload_n X (Or.inr ⟨_, rfl⟩) dd_Mo_fail_19 rfl ?_
    obtain ⟨x_3, h9, vc⟩ := vc
    refine hw_get X (fe_Mo_46 X) h9 dd_Mo_fail_20 ?_
    refine hw_icmp_ge X (tgt := 38) dd_Mo_fail_23 rfl (fun hc => ?_) (fun hc => ?_)
    · replace vc := vc.1 hc
      refine hw_aload_n X (Or.inr ⟨_, rfl⟩) dd_Mo_fail_38 rfl ?_
      obtain ⟨x_4, h9, vc⟩ := vc
      refine hw_get X (fe_Mo_55 X) h9 dd_Mo_fail_39 ?_
      obtain ⟨w5, h9, vc⟩ := vc
      refine hw_put X (fp_Mo_52 X) rfl rfl h9 dd_Mo_fail_42 ?_
      exact rt dd_Mo_fail_45 vc
    · replace vc := vc.2 hc
      refine hw_aload_n X (Or.inr ⟨_, rfl⟩) dd_Mo_fail_26 rfl ?_
      obtain ⟨b_6, h9, vc⟩ := vc
      refine hw_get X (fe_Mo_13 X) h9 dd_Mo_fail_27 ?_
      refine hw_aload_n X (Or.inr ⟨_, rfl⟩) dd_Mo_fail_30 rfl ?_
      obtain ⟨x_7, h9, vc⟩ := vc
      refine hw_get X (fe_Mo_49 X) h9 dd_Mo_fail_31 ?_
      obtain ⟨x_8, h9, vc⟩ := vc
      refine hw_iald X h9 dd_Mo_fail_34 ?_
      refine hw_goto X (tgt := 42) dd_Mo_fail_35 rfl ?_
      obtain ⟨w9, h9, vc⟩ := vc
      refine hw_put X (fp_Mo_52 X) rfl rfl h9 dd_Mo_fail_42 ?_
      exact rt dd_Mo_fail_45 vc
  · replace vc := vc.2 hc
    refine hw_aload_n X (Or.inr ⟨_, rfl⟩) dd_Mo_fail_8 rfl ?_
    obtain ⟨x_10, h9, vc⟩ := vc
    refine hw_get X (fe_Mo_52 X) h9 dd_Mo_fail_9 ?_
    refine hw_goto X (tgt := 42) dd_Mo_fail_12 rfl ?_
    obtain ⟨w11, h9, vc⟩ := vc
    refine hw_put X (fp_Mo_52 X) rfl rfl h9 dd_Mo_fail_42 ?_
    exact rt dd_Mo_fail_45 vc
end
section
variable {p : Program} {l : Launch} {e : Env} {R : Room} {s : State} {m : MethodId} {args : Array Value} {below : List Frame} {meth : Method} {c : Code} {Q : State → Prop} {g : hw_G} {A : Nat → Prop} {k n : Nat} {w : hw_H}
def vc_Mo_isWord_0 (l : Launch) (g : hw_G) (R : Room) (K : Nat → Nat → Nat → List (Option Value) → List Value → hw_H → Prop) (PR : Nat → Nat → Int32 → hw_H → Prop) (k n : Nat) (a0 : Nat) (x1 : Int32) (x2 : Int32) (x3 : Int32) (w : hw_H) : Prop := ∃ x_1 : Int32, hw_g w a0 8 5 (.int x_1) ∧ (∃ x_2 : Int32, hw_g w a0 8 2 (.int x_2) ∧ (((x_1 < x_2) → (∃ b_3 : Nat, hw_g w a0 8 3 (.ref b_3) ∧ (∃ x_4 : Int32, hw_g w a0 8 5 (.int x_4) ∧ (∃ x_5 : Int32, hw_ai g 0 w b_3 x_4 x_5 ∧ (∃ b_6 : Nat, hw_g w a0 8 4 (.ref b_6) ∧ (∃ x_7 : Int32, hw_g w a0 8 5 (.int x_7) ∧ (∃ x_8 : Int32, hw_ai g 0 w b_6 x_7 x_8 ∧ (∀ y9 : Int32, y9 = (x_8 - x_5) → (((¬ x2 = 0) → (((¬ y9 = (3 : Int32)) → (PR k n (0 : Int32) w)) ∧ ((y9 = (3 : Int32)) → (∃ b_10 : Nat, hw_g w a0 8 0 (.ref b_10) ∧ (∃ x_11 : Int32, hw_ai g 0 w b_10 x_5 x_11 ∧ (((¬ x_11 = x1) → (PR k n (0 : Int32) w)) ∧ ((x_11 = x1) → (((y9 = (1 : Int32)) → (PR k n (1 : Int32) w)) ∧ ((¬ y9 = (1 : Int32)) → (∃ b_12 : Nat, hw_g w a0 8 0 (.ref b_12) ∧ (∃ x_13 : Int32, hw_ai g 0 w b_12 (x_5 + (1 : Int32)) x_13 ∧ (((¬ x_13 = x2) → (PR k n (0 : Int32) w)) ∧ ((x_13 = x2) → (∃ b_14 : Nat, hw_g w a0 8 0 (.ref b_14) ∧ (∃ x_15 : Int32, hw_ai g 0 w b_14 (x_5 + (2 : Int32)) x_15 ∧ (((¬ x_15 = x3) → (PR k n (0 : Int32) w)) ∧ ((x_15 = x3) → (PR k n (1 : Int32) w)))))))))))))))))) ∧ ((x2 = 0) → (((¬ y9 = (1 : Int32)) → (PR k n (0 : Int32) w)) ∧ ((y9 = (1 : Int32)) → (∃ b_16 : Nat, hw_g w a0 8 0 (.ref b_16) ∧ (∃ x_17 : Int32, hw_ai g 0 w b_16 x_5 x_17 ∧ (((¬ x_17 = x1) → (PR k n (0 : Int32) w)) ∧ ((x_17 = x1) → (((y9 = (1 : Int32)) → (PR k n (1 : Int32) w)) ∧ ((¬ y9 = (1 : Int32)) → (∃ b_18 : Nat, hw_g w a0 8 0 (.ref b_18) ∧ (∃ x_19 : Int32, hw_ai g 0 w b_18 (x_5 + (1 : Int32)) x_19 ∧ (((¬ x_19 = x2) → (PR k n (0 : Int32) w)) ∧ ((x_19 = x2) → (∃ b_20 : Nat, hw_g w a0 8 0 (.ref b_20) ∧ (∃ x_21 : Int32, hw_ai g 0 w b_20 (x_5 + (2 : Int32)) x_21 ∧ (((¬ x_21 = x3) → (PR k n (0 : Int32) w)) ∧ ((x_21 = x3) → (PR k n (1 : Int32) w))))))))))))))))))))))))))) ∧ ((¬ x_1 < x_2) → (PR k n (0 : Int32) w))))
set_option maxHeartbeats 4000000 in
set_option maxRecDepth 100000 in
theorem sg_Mo_isWord_0 (X : hw_X p m c cb_Mo_isWord 6 s args (mw_Mo_isWord) "ProofCourtModel" g A) {K : Nat → Nat → Nat → List (Option Value) → List Value → hw_H → Prop} {PR : Nat → Nat → Int32 → hw_H → Prop} (hK : ∀ (k n pc : Nat) (lv : List (Option Value)) (st : List Value) (w : hw_H), K k n pc lv st w → hw_J p l e R s m args below meth c Q 6 g A k n pc lv st w) (rt : ∀ {k n pc : Nat} {lv : List (Option Value)} {x : Int32} {w : hw_H}, decode cb_Mo_isWord pc = .ok (.ireturn, 1) → PR k n x w → hw_J p l e R s m args below meth c Q 6 g A k n pc lv [.int x] w) {a0 : Nat} {x1 : Int32} {x2 : Int32} {x3 : Int32} (vc : vc_Mo_isWord_0 l g R K PR k n a0 x1 x2 x3 w) : hw_J p l e R s m args below meth c Q 6 g A k n 0 [some (.ref a0), some (.int x1), some (.int x2), some (.int x3), none, none] [] w := by
  unfold vc_Mo_isWord_0 at vc
  refine hw_aload_n X (Or.inr ⟨_, rfl⟩) dd_Mo_isWord_0 rfl ?_
  obtain ⟨x_1, h9, vc⟩ := vc
  refine hw_get X (fe_Mo_49 X) h9 dd_Mo_isWord_1 ?_
  refine hw_aload_n X (Or.inr ⟨_, rfl⟩) dd_Mo_isWord_4 rfl ?_
  obtain ⟨x_2, h9, vc⟩ := vc
  refine hw_get X (fe_Mo_46 X) h9 dd_Mo_isWord_5 ?_
  refine hw_icmp_lt X (tgt := 13) dd_Mo_isWord_8 rfl (fun hc => ?_) (fun hc => ?_)
  · replace vc := vc.1 hc
    refine hw_aload_n X (Or.inr ⟨_, rfl⟩) dd_Mo_isWord_13 rfl ?_
    obtain ⟨b_3, h9, vc⟩ := vc
    refine hw_get X (fe_Mo_13 X) h9 dd_Mo_isWord_14 ?_
    refine hw_aload_n X (Or.inr ⟨_, rfl⟩) dd_Mo_isWord_17 rfl ?_
    obtain ⟨x_4, h9, vc⟩ := vc
    refine hw_get X (fe_Mo_49 X) h9 dd_Mo_isWord_18 ?_
    obtain ⟨x_5, h9, vc⟩ := vc
    refine hw_iald X h9 dd_Mo_isWord_21 ?_
    refine hw_istore X dd_Mo_isWord_22 (by decide) rfl ?_
    refine hw_aload_n X (Or.inr ⟨_, rfl⟩) dd_Mo_isWord_24 rfl ?_
    obtain ⟨b_6, h9, vc⟩ := vc
    refine hw_get X (fe_Mo_16 X) h9 dd_Mo_isWord_25 ?_
    refine hw_aload_n X (Or.inr ⟨_, rfl⟩) dd_Mo_isWord_28 rfl ?_
    obtain ⟨x_7, h9, vc⟩ := vc
    refine hw_get X (fe_Mo_49 X) h9 dd_Mo_isWord_29 ?_
    obtain ⟨x_8, h9, vc⟩ := vc
    refine hw_iald X h9 dd_Mo_isWord_32 ?_
    refine hw_iload X dd_Mo_isWord_33 rfl ?_
    refine hw_isub X dd_Mo_isWord_35 ?_
    refine hw_top (fun y9 ey9 => ?_)
    replace vc := vc y9 ey9
    refine hw_istore X dd_Mo_isWord_36 (by decide) rfl ?_
    refine hw_iload X dd_Mo_isWord_38 rfl ?_
    refine hw_iload_n X dd_Mo_isWord_40 rfl ?_
    refine hw_if_ne X (tgt := 48) dd_Mo_isWord_41 rfl (fun hc => ?_) (fun hc => ?_)
    · replace vc := vc.1 hc
      refine hw_iconst X (v := 3) dd_Mo_isWord_48 (by decide) ?_
      refine hw_icmp_ne X (tgt := 99) dd_Mo_isWord_49 rfl (fun hc => ?_) (fun hc => ?_)
      · replace vc := vc.1 hc
        refine hw_iconst X (v := 0) dd_Mo_isWord_99 (by decide) ?_
        exact rt dd_Mo_isWord_100 vc
      · replace vc := vc.2 hc
        refine hw_aload_n X (Or.inr ⟨_, rfl⟩) dd_Mo_isWord_52 rfl ?_
        obtain ⟨b_10, h9, vc⟩ := vc
        refine hw_get X (fe_Mo_7 X) h9 dd_Mo_isWord_53 ?_
        refine hw_iload X dd_Mo_isWord_56 rfl ?_
        obtain ⟨x_11, h9, vc⟩ := vc
        refine hw_iald X h9 dd_Mo_isWord_58 ?_
        refine hw_iload_n X dd_Mo_isWord_59 rfl ?_
        refine hw_icmp_ne X (tgt := 99) dd_Mo_isWord_60 rfl (fun hc => ?_) (fun hc => ?_)
        · replace vc := vc.1 hc
          refine hw_iconst X (v := 0) dd_Mo_isWord_99 (by decide) ?_
          exact rt dd_Mo_isWord_100 vc
        · replace vc := vc.2 hc
          refine hw_iload X dd_Mo_isWord_63 rfl ?_
          refine hw_iconst X (v := 1) dd_Mo_isWord_65 (by decide) ?_
          refine hw_icmp_eq X (tgt := 95) dd_Mo_isWord_66 rfl (fun hc => ?_) (fun hc => ?_)
          · replace vc := vc.1 hc
            refine hw_iconst X (v := 1) dd_Mo_isWord_95 (by decide) ?_
            refine hw_goto X (tgt := 100) dd_Mo_isWord_96 rfl ?_
            exact rt dd_Mo_isWord_100 vc
          · replace vc := vc.2 hc
            refine hw_aload_n X (Or.inr ⟨_, rfl⟩) dd_Mo_isWord_69 rfl ?_
            obtain ⟨b_12, h9, vc⟩ := vc
            refine hw_get X (fe_Mo_7 X) h9 dd_Mo_isWord_70 ?_
            refine hw_iload X dd_Mo_isWord_73 rfl ?_
            refine hw_iconst X (v := 1) dd_Mo_isWord_75 (by decide) ?_
            refine hw_iadd X dd_Mo_isWord_76 ?_
            obtain ⟨x_13, h9, vc⟩ := vc
            refine hw_iald X h9 dd_Mo_isWord_77 ?_
            refine hw_iload_n X dd_Mo_isWord_78 rfl ?_
            refine hw_icmp_ne X (tgt := 99) dd_Mo_isWord_79 rfl (fun hc => ?_) (fun hc => ?_)
            · replace vc := vc.1 hc
              refine hw_iconst X (v := 0) dd_Mo_isWord_99 (by decide) ?_
              exact rt dd_Mo_isWord_100 vc
            · replace vc := vc.2 hc
              refine hw_aload_n X (Or.inr ⟨_, rfl⟩) dd_Mo_isWord_82 rfl ?_
              obtain ⟨b_14, h9, vc⟩ := vc
              refine hw_get X (fe_Mo_7 X) h9 dd_Mo_isWord_83 ?_
              refine hw_iload X dd_Mo_isWord_86 rfl ?_
              refine hw_iconst X (v := 2) dd_Mo_isWord_88 (by decide) ?_
              refine hw_iadd X dd_Mo_isWord_89 ?_
              obtain ⟨x_15, h9, vc⟩ := vc
              refine hw_iald X h9 dd_Mo_isWord_90 ?_
              refine hw_iload_n X dd_Mo_isWord_91 rfl ?_
              refine hw_icmp_ne X (tgt := 99) dd_Mo_isWord_92 rfl (fun hc => ?_) (fun hc => ?_)
              · replace vc := vc.1 hc
                refine hw_iconst X (v := 0) dd_Mo_isWord_99 (by decide) ?_
                exact rt dd_Mo_isWord_100 vc
              · replace vc := vc.2 hc
                refine hw_iconst X (v := 1) dd_Mo_isWord_95 (by decide) ?_
                refine hw_goto X (tgt := 100) dd_Mo_isWord_96 rfl ?_
                exact rt dd_Mo_isWord_100 vc
    · replace vc := vc.2 hc
      refine hw_iconst X (v := 1) dd_Mo_isWord_44 (by decide) ?_
      refine hw_goto X (tgt := 49) dd_Mo_isWord_45 rfl ?_
      refine hw_icmp_ne X (tgt := 99) dd_Mo_isWord_49 rfl (fun hc => ?_) (fun hc => ?_)
      · replace vc := vc.1 hc
        refine hw_iconst X (v := 0) dd_Mo_isWord_99 (by decide) ?_
        exact rt dd_Mo_isWord_100 vc
      · replace vc := vc.2 hc
        refine hw_aload_n X (Or.inr ⟨_, rfl⟩) dd_Mo_isWord_52 rfl ?_
        obtain ⟨b_16, h9, vc⟩ := vc
        refine hw_get X (fe_Mo_7 X) h9 dd_Mo_isWord_53 ?_
        refine hw_iload X dd_Mo_isWord_56 rfl ?_
        obtain ⟨x_17, h9, vc⟩ := vc
        refine hw_iald X h9 dd_Mo_isWord_58 ?_
        refine hw_iload_n X dd_Mo_isWord_59 rfl ?_
        refine hw_icmp_ne X (tgt := 99) dd_Mo_isWord_60 rfl (fun hc => ?_) (fun hc => ?_)
        · replace vc := vc.1 hc
          refine hw_iconst X (v := 0) dd_Mo_isWord_99 (by decide) ?_
          exact rt dd_Mo_isWord_100 vc
        · replace vc := vc.2 hc
          refine hw_iload X dd_Mo_isWord_63 rfl ?_
          refine hw_iconst X (v := 1) dd_Mo_isWord_65 (by decide) ?_
          refine hw_icmp_eq X (tgt := 95) dd_Mo_isWord_66 rfl (fun hc => ?_) (fun hc => ?_)
          · replace vc := vc.1 hc
            refine hw_iconst X (v := 1) dd_Mo_isWord_95 (by decide) ?_
            refine hw_goto X (tgt := 100) dd_Mo_isWord_96 rfl ?_
            exact rt dd_Mo_isWord_100 vc
          · replace vc := vc.2 hc
            refine hw_aload_n X (Or.inr ⟨_, rfl⟩) dd_Mo_isWord_69 rfl ?_
            obtain ⟨b_18, h9, vc⟩ := vc
            refine hw_get X (fe_Mo_7 X) h9 dd_Mo_isWord_70 ?_
            refine hw_iload X dd_Mo_isWord_73 rfl ?_
            refine hw_iconst X (v := 1) dd_Mo_isWord_75 (by decide) ?_
            refine hw_iadd X dd_Mo_isWord_76 ?_
            obtain ⟨x_19, h9, vc⟩ := vc
            refine hw_iald X h9 dd_Mo_isWord_77 ?_
            refine hw_iload_n X dd_Mo_isWord_78 rfl ?_
            refine hw_icmp_ne X (tgt := 99) dd_Mo_isWord_79 rfl (fun hc => ?_) (fun hc => ?_)
            · replace vc := vc.1 hc
              refine hw_iconst X (v := 0) dd_Mo_isWord_99 (by decide) ?_
              exact rt dd_Mo_isWord_100 vc
            · replace vc := vc.2 hc
              refine hw_aload_n X (Or.inr ⟨_, rfl⟩) dd_Mo_isWord_82 rfl ?_
              obtain ⟨b_20, h9, vc⟩ := vc
              refine hw_get X (fe_Mo_7 X) h9 dd_Mo_isWord_83 ?_
              refine hw_iload X dd_Mo_isWord_86 rfl ?_
              refine hw_iconst X (v := 2) dd_Mo_isWord_88 (by decide) ?_
              refine hw_iadd X dd_Mo_isWord_89 ?_
              obtain ⟨x_21, h9, vc⟩ := vc
              refine hw_iald X h9 dd_Mo_isWord_90 ?_
              refine hw_iload_n X dd_Mo_isWord_91 rfl ?_
              refine hw_icmp_ne X (tgt := 99) dd_Mo_isWord_92 rfl (fun hc => ?_) (fun hc => ?_)
              · replace vc := vc.1 hc
                refine hw_iconst X (v := 0) dd_Mo_isWord_99 (by decide) ?_
                exact rt dd_Mo_isWord_100 vc
              · replace vc := vc.2 hc
                refine hw_iconst X (v := 1) dd_Mo_isWord_95 (by decide) ?_
                refine hw_goto X (tgt := 100) dd_Mo_isWord_96 rfl ?_
                exact rt dd_Mo_isWord_100 vc
  · replace vc := vc.2 hc
    refine hw_iconst X (v := 0) dd_Mo_isWord_11 (by decide) ?_
    exact rt dd_Mo_isWord_12 vc
end
section
variable {p : Program} {l : Launch} {e : Env} {R : Room} {s : State} {m : MethodId} {args : Array Value} {below : List Frame} {meth : Method} {c : Code} {Q : State → Prop} {g : hw_G} {A : Nat → Prop} {k n : Nat} {w : hw_H}
def vc_Mo_expect_0 (l : Launch) (g : hw_G) (R : Room) (K : Nat → Nat → Nat → List (Option Value) → List Value → hw_H → Prop) (PR : Nat → Nat → hw_H → Prop) (k n : Nat) (a0 : Nat) (x1 : Int32) (x2 : Int32) (x3 : Int32) (w : hw_H) : Prop := hw_o w a0 "ProofCourtModel" ∧ hw_ci l g R k n ym_Mo_isWord (mw_Mo_isWord) 6 [.ref a0, .int x1, .int x2, .int x3] w (fun (k2 n3 : Nat) (x_4 : Int32) (w1 : hw_H) => ((¬ x_4 = 0) → (∃ x_5 : Int32, hw_g w1 a0 8 5 (.int x_5) ∧ (∃ w6 : hw_H, hw_p w1 a0 8 5 (.int (x_5 + (1 : Int32))) w6 ∧ (PR k2 n3 w6)))) ∧ ((x_4 = 0) → (hw_o w1 a0 "ProofCourtModel" ∧ hw_cv l g R k2 n3 ym_Mo_fail (mw_Mo_fail) 1 [.ref a0] w1 (fun (k8 n9 : Nat) (w7 : hw_H) => ∃ x_10 : Int32, hw_g w7 a0 8 5 (.int x_10) ∧ (∃ w11 : hw_H, hw_p w7 a0 8 5 (.int (x_10 + (1 : Int32))) w11 ∧ (PR k8 n9 w11))))))
set_option maxHeartbeats 4000000 in
set_option maxRecDepth 100000 in
theorem sg_Mo_expect_0 (X : hw_X p m c cb_Mo_expect 4 s args (mw_Mo_expect) "ProofCourtModel" g A) {K : Nat → Nat → Nat → List (Option Value) → List Value → hw_H → Prop} {PR : Nat → Nat → hw_H → Prop} (hK : ∀ (k n pc : Nat) (lv : List (Option Value)) (st : List Value) (w : hw_H), K k n pc lv st w → hw_J p l e R s m args below meth c Q 4 g A k n pc lv st w) (rt : ∀ {k n pc : Nat} {lv : List (Option Value)} {w : hw_H}, decode cb_Mo_expect pc = .ok (.return_, 1) → PR k n w → hw_J p l e R s m args below meth c Q 4 g A k n pc lv [] w) {a0 : Nat} {x1 : Int32} {x2 : Int32} {x3 : Int32} (vc : vc_Mo_expect_0 l g R K PR k n a0 x1 x2 x3 w) : hw_J p l e R s m args below meth c Q 4 g A k n 0 [some (.ref a0), some (.int x1), some (.int x2), some (.int x3)] [] w := by
  unfold vc_Mo_expect_0 at vc
  refine hw_aload_n X (Or.inr ⟨_, rfl⟩) dd_Mo_expect_0 rfl ?_
  refine hw_iload_n X dd_Mo_expect_1 rfl ?_
  refine hw_iload_n X dd_Mo_expect_2 rfl ?_
  refine hw_iload_n X dd_Mo_expect_3 rfl ?_
  obtain ⟨hob, rm9, po9, hM9, hf9, hc9, vc⟩ := vc
  refine hw_callVi X (As := [.int x1, .int x2, .int x3]) (ye_Mo_62 X) hM9 rfl hf9 hc9 hob (Nat.le_of_ble_eq_true rfl) rfl dd_Mo_expect_4 (fun x_4 w1 hp => ?_)
  replace vc := vc x_4 w1 hp
  refine hw_if_ne X (tgt := 14) dd_Mo_expect_7 rfl (fun hc => ?_) (fun hc => ?_)
  · replace vc := vc.1 hc
    refine hw_aload_n X (Or.inr ⟨_, rfl⟩) dd_Mo_expect_14 rfl ?_
    refine hw_aload_n X (Or.inr ⟨_, rfl⟩) dd_Mo_expect_15 rfl ?_
    obtain ⟨x_5, h9, vc⟩ := vc
    refine hw_get X (fe_Mo_49 X) h9 dd_Mo_expect_16 ?_
    refine hw_iconst X (v := 1) dd_Mo_expect_19 (by decide) ?_
    refine hw_iadd X dd_Mo_expect_20 ?_
    obtain ⟨w6, h9, vc⟩ := vc
    refine hw_put X (fp_Mo_49 X) rfl rfl h9 dd_Mo_expect_21 ?_
    exact rt dd_Mo_expect_24 vc
  · replace vc := vc.2 hc
    refine hw_aload_n X (Or.inr ⟨_, rfl⟩) dd_Mo_expect_10 rfl ?_
    obtain ⟨hob, rm9, po9, hM9, hf9, hc9, vc⟩ := vc
    refine hw_callVv X (As := []) (ye_Mo_65 X) hM9 rfl hf9 hc9 hob (Nat.le_of_ble_eq_true rfl) rfl dd_Mo_expect_11 (fun w7 hp => ?_)
    replace vc := vc w7 hp
    refine hw_aload_n X (Or.inr ⟨_, rfl⟩) dd_Mo_expect_14 rfl ?_
    refine hw_aload_n X (Or.inr ⟨_, rfl⟩) dd_Mo_expect_15 rfl ?_
    obtain ⟨x_10, h9, vc⟩ := vc
    refine hw_get X (fe_Mo_49 X) h9 dd_Mo_expect_16 ?_
    refine hw_iconst X (v := 1) dd_Mo_expect_19 (by decide) ?_
    refine hw_iadd X dd_Mo_expect_20 ?_
    obtain ⟨w11, h9, vc⟩ := vc
    refine hw_put X (fp_Mo_49 X) rfl rfl h9 dd_Mo_expect_21 ?_
    exact rt dd_Mo_expect_24 vc
end
section
variable {p : Program} {l : Launch} {e : Env} {R : Room} {s : State} {m : MethodId} {args : Array Value} {below : List Frame} {meth : Method} {c : Code} {Q : State → Prop} {g : hw_G} {A : Nat → Prop} {k n : Nat} {w : hw_H}
def vc_Mo_isNumber_0 (l : Launch) (g : hw_G) (R : Room) (K : Nat → Nat → Nat → List (Option Value) → List Value → hw_H → Prop) (PR : Nat → Nat → Int32 → hw_H → Prop) (k n : Nat) (a0 : Nat) (x1 : Int32) (x2 : Int32) (w : hw_H) : Prop := ∃ x_1 : Int32, hw_g w a0 8 5 (.int x_1) ∧ (∃ x_2 : Int32, hw_g w a0 8 2 (.int x_2) ∧ (((x_1 < x_2) → (∃ b_3 : Nat, hw_g w a0 8 3 (.ref b_3) ∧ (∃ x_4 : Int32, hw_g w a0 8 5 (.int x_4) ∧ (∃ x_5 : Int32, hw_ai g 0 w b_3 x_4 x_5 ∧ (∃ b_6 : Nat, hw_g w a0 8 0 (.ref b_6) ∧ (∃ x_7 : Int32, hw_ai g 0 w b_6 x_5 x_7 ∧ (((¬ x_7 = (45 : Int32)) → (∃ b_8 : Nat, hw_g w a0 8 4 (.ref b_8) ∧ (∃ x_9 : Int32, hw_g w a0 8 5 (.int x_9) ∧ (∃ x_10 : Int32, hw_ai g 0 w b_8 x_9 x_10 ∧ (hw_ci l g R k n ym_Mo_in (mw_Mo_in) 3 [.int (x_10 - x_5), .int (1 : Int32), .int (4 : Int32)] w (fun (k12 n13 : Nat) (x_14 : Int32) (w11 : hw_H) => K k12 n13 66 [some (.ref a0), some (.int x1), some (.int x2), some (.int x_5), some (.int x_5), some (.int x_14), some (.int x_5)] [] w11)))))) ∧ ((x_7 = (45 : Int32)) → (∀ y15 : Int32, y15 = (x_5 + (1 : Int32)) → (∃ b_16 : Nat, hw_g w a0 8 4 (.ref b_16) ∧ (∃ x_17 : Int32, hw_g w a0 8 5 (.int x_17) ∧ (∃ x_18 : Int32, hw_ai g 0 w b_16 x_17 x_18 ∧ (hw_ci l g R k n ym_Mo_in (mw_Mo_in) 3 [.int (x_18 - y15), .int (1 : Int32), .int (4 : Int32)] w (fun (k20 n21 : Nat) (x_22 : Int32) (w19 : hw_H) => K k20 n21 66 [some (.ref a0), some (.int x1), some (.int x2), some (.int x_5), some (.int y15), some (.int x_22), some (.int y15)] [] w19)))))))))))))) ∧ ((¬ x_1 < x_2) → (PR k n (0 : Int32) w))))
set_option maxHeartbeats 4000000 in
set_option maxRecDepth 100000 in
theorem sg_Mo_isNumber_0 (X : hw_X p m c cb_Mo_isNumber 7 s args (mw_Mo_isNumber) "ProofCourtModel" g A) {K : Nat → Nat → Nat → List (Option Value) → List Value → hw_H → Prop} {PR : Nat → Nat → Int32 → hw_H → Prop} (hK : ∀ (k n pc : Nat) (lv : List (Option Value)) (st : List Value) (w : hw_H), K k n pc lv st w → hw_J p l e R s m args below meth c Q 7 g A k n pc lv st w) (rt : ∀ {k n pc : Nat} {lv : List (Option Value)} {x : Int32} {w : hw_H}, decode cb_Mo_isNumber pc = .ok (.ireturn, 1) → PR k n x w → hw_J p l e R s m args below meth c Q 7 g A k n pc lv [.int x] w) {a0 : Nat} {x1 : Int32} {x2 : Int32} (vc : vc_Mo_isNumber_0 l g R K PR k n a0 x1 x2 w) : hw_J p l e R s m args below meth c Q 7 g A k n 0 [some (.ref a0), some (.int x1), some (.int x2), none, none, none, none] [] w := by
  unfold vc_Mo_isNumber_0 at vc
  refine hw_aload_n X (Or.inr ⟨_, rfl⟩) dd_Mo_isNumber_0 rfl ?_
  obtain ⟨x_1, h9, vc⟩ := vc
  refine hw_get X (fe_Mo_49 X) h9 dd_Mo_isNumber_1 ?_
  refine hw_aload_n X (Or.inr ⟨_, rfl⟩) dd_Mo_isNumber_4 rfl ?_
  obtain ⟨x_2, h9, vc⟩ := vc
  refine hw_get X (fe_Mo_46 X) h9 dd_Mo_isNumber_5 ?_
  refine hw_icmp_lt X (tgt := 13) dd_Mo_isNumber_8 rfl (fun hc => ?_) (fun hc => ?_)
  · replace vc := vc.1 hc
    refine hw_aload_n X (Or.inr ⟨_, rfl⟩) dd_Mo_isNumber_13 rfl ?_
    obtain ⟨b_3, h9, vc⟩ := vc
    refine hw_get X (fe_Mo_13 X) h9 dd_Mo_isNumber_14 ?_
    refine hw_aload_n X (Or.inr ⟨_, rfl⟩) dd_Mo_isNumber_17 rfl ?_
    obtain ⟨x_4, h9, vc⟩ := vc
    refine hw_get X (fe_Mo_49 X) h9 dd_Mo_isNumber_18 ?_
    obtain ⟨x_5, h9, vc⟩ := vc
    refine hw_iald X h9 dd_Mo_isNumber_21 ?_
    refine hw_istore_n X dd_Mo_isNumber_22 (by decide) rfl ?_
    refine hw_aload_n X (Or.inr ⟨_, rfl⟩) dd_Mo_isNumber_23 rfl ?_
    obtain ⟨b_6, h9, vc⟩ := vc
    refine hw_get X (fe_Mo_7 X) h9 dd_Mo_isNumber_24 ?_
    refine hw_iload_n X dd_Mo_isNumber_27 rfl ?_
    obtain ⟨x_7, h9, vc⟩ := vc
    refine hw_iald X h9 dd_Mo_isNumber_28 ?_
    refine hw_bipush X (v := 45) dd_Mo_isNumber_29 (by decide) ?_
    refine hw_icmp_ne X (tgt := 40) dd_Mo_isNumber_31 rfl (fun hc => ?_) (fun hc => ?_)
    · replace vc := vc.1 hc
      refine hw_iload_n X dd_Mo_isNumber_40 rfl ?_
      refine hw_istore X dd_Mo_isNumber_41 (by decide) rfl ?_
      refine hw_aload_n X (Or.inr ⟨_, rfl⟩) dd_Mo_isNumber_43 rfl ?_
      obtain ⟨b_8, h9, vc⟩ := vc
      refine hw_get X (fe_Mo_16 X) h9 dd_Mo_isNumber_44 ?_
      refine hw_aload_n X (Or.inr ⟨_, rfl⟩) dd_Mo_isNumber_47 rfl ?_
      obtain ⟨x_9, h9, vc⟩ := vc
      refine hw_get X (fe_Mo_49 X) h9 dd_Mo_isNumber_48 ?_
      obtain ⟨x_10, h9, vc⟩ := vc
      refine hw_iald X h9 dd_Mo_isNumber_51 ?_
      refine hw_iload X dd_Mo_isNumber_52 rfl ?_
      refine hw_isub X dd_Mo_isNumber_54 ?_
      refine hw_iconst X (v := 1) dd_Mo_isNumber_55 (by decide) ?_
      refine hw_iconst X (v := 4) dd_Mo_isNumber_56 (by decide) ?_
      obtain ⟨rm9, po9, hM9, hf9, hc9, vc⟩ := vc
      refine hw_callSi X (As := [.int (x_10 - x_5), .int (1 : Int32), .int (4 : Int32)]) (ye_Mo_38 X) hM9 rfl hf9 hc9 (Nat.le_of_ble_eq_true rfl) rfl dd_Mo_isNumber_57 (fun x_14 w11 hp => ?_)
      replace vc := vc x_14 w11 hp
      refine hw_istore X dd_Mo_isNumber_60 (by decide) rfl ?_
      refine hw_iload X dd_Mo_isNumber_62 rfl ?_
      refine hw_istore X dd_Mo_isNumber_64 (by decide) rfl ?_
      exact hK _ _ _ _ _ _ vc
    · replace vc := vc.2 hc
      refine hw_iload_n X dd_Mo_isNumber_34 rfl ?_
      refine hw_iconst X (v := 1) dd_Mo_isNumber_35 (by decide) ?_
      refine hw_iadd X dd_Mo_isNumber_36 ?_
      refine hw_goto X (tgt := 41) dd_Mo_isNumber_37 rfl ?_
      refine hw_top (fun y15 ey15 => ?_)
      replace vc := vc y15 ey15
      refine hw_istore X dd_Mo_isNumber_41 (by decide) rfl ?_
      refine hw_aload_n X (Or.inr ⟨_, rfl⟩) dd_Mo_isNumber_43 rfl ?_
      obtain ⟨b_16, h9, vc⟩ := vc
      refine hw_get X (fe_Mo_16 X) h9 dd_Mo_isNumber_44 ?_
      refine hw_aload_n X (Or.inr ⟨_, rfl⟩) dd_Mo_isNumber_47 rfl ?_
      obtain ⟨x_17, h9, vc⟩ := vc
      refine hw_get X (fe_Mo_49 X) h9 dd_Mo_isNumber_48 ?_
      obtain ⟨x_18, h9, vc⟩ := vc
      refine hw_iald X h9 dd_Mo_isNumber_51 ?_
      refine hw_iload X dd_Mo_isNumber_52 rfl ?_
      refine hw_isub X dd_Mo_isNumber_54 ?_
      refine hw_iconst X (v := 1) dd_Mo_isNumber_55 (by decide) ?_
      refine hw_iconst X (v := 4) dd_Mo_isNumber_56 (by decide) ?_
      obtain ⟨rm9, po9, hM9, hf9, hc9, vc⟩ := vc
      refine hw_callSi X (As := [.int (x_18 - y15), .int (1 : Int32), .int (4 : Int32)]) (ye_Mo_38 X) hM9 rfl hf9 hc9 (Nat.le_of_ble_eq_true rfl) rfl dd_Mo_isNumber_57 (fun x_22 w19 hp => ?_)
      replace vc := vc x_22 w19 hp
      refine hw_istore X dd_Mo_isNumber_60 (by decide) rfl ?_
      refine hw_iload X dd_Mo_isNumber_62 rfl ?_
      refine hw_istore X dd_Mo_isNumber_64 (by decide) rfl ?_
      exact hK _ _ _ _ _ _ vc
  · replace vc := vc.2 hc
    refine hw_iconst X (v := 0) dd_Mo_isNumber_11 (by decide) ?_
    exact rt dd_Mo_isNumber_12 vc
def vc_Mo_isNumber_66 (l : Launch) (g : hw_G) (R : Room) (K : Nat → Nat → Nat → List (Option Value) → List Value → hw_H → Prop) (PR : Nat → Nat → Int32 → hw_H → Prop) (k n : Nat) (a0 : Nat) (x1 : Int32) (x2 : Int32) (x3 : Int32) (x4 : Int32) (x5 : Int32) (x6 : Int32) (w : hw_H) : Prop := ∃ b_1 : Nat, hw_g w a0 8 4 (.ref b_1) ∧ (∃ x_2 : Int32, hw_g w a0 8 5 (.int x_2) ∧ (∃ x_3 : Int32, hw_ai g 0 w b_1 x_2 x_3 ∧ (((x_3 ≤ x6) → (((x5 = 0) → (PR k n (0 : Int32) w)) ∧ ((¬ x5 = 0) → (hw_o w a0 "ProofCourtModel" ∧ hw_ci l g R k n ym_Mo_worth (mw_Mo_worth) 4 [.ref a0] w (fun (k5 n6 : Nat) (x_7 : Int32) (w4 : hw_H) => hw_ci l g R k5 n6 ym_Mo_in (mw_Mo_in) 3 [.int x_7, .int x1, .int x2] w4 (fun (k9 n10 : Nat) (x_11 : Int32) (w8 : hw_H) => ((x_11 = 0) → (PR k9 n10 (0 : Int32) w8)) ∧ ((¬ x_11 = 0) → (PR k9 n10 (1 : Int32) w8)))))))) ∧ ((¬ x_3 ≤ x6) → (((x5 = 0) → (K k n 66 [some (.ref a0), some (.int x1), some (.int x2), some (.int x3), some (.int x4), some (.int (0 : Int32)), some (.int (x6 + 1))] [] w)) ∧ ((¬ x5 = 0) → (∃ b_12 : Nat, hw_g w a0 8 0 (.ref b_12) ∧ (∃ x_13 : Int32, hw_ai g 0 w b_12 x6 x_13 ∧ (hw_ci l g R k n ym_Mo_in (mw_Mo_in) 3 [.int x_13, .int (48 : Int32), .int (57 : Int32)] w (fun (k15 n16 : Nat) (x_17 : Int32) (w14 : hw_H) => ((x_17 = 0) → (K k15 n16 66 [some (.ref a0), some (.int x1), some (.int x2), some (.int x3), some (.int x4), some (.int (0 : Int32)), some (.int (x6 + 1))] [] w14)) ∧ ((¬ x_17 = 0) → (K k15 n16 66 [some (.ref a0), some (.int x1), some (.int x2), some (.int x3), some (.int x4), some (.int (1 : Int32)), some (.int (x6 + 1))] [] w14))))))))))))
set_option maxHeartbeats 4000000 in
set_option maxRecDepth 100000 in
theorem sg_Mo_isNumber_66 (X : hw_X p m c cb_Mo_isNumber 7 s args (mw_Mo_isNumber) "ProofCourtModel" g A) {K : Nat → Nat → Nat → List (Option Value) → List Value → hw_H → Prop} {PR : Nat → Nat → Int32 → hw_H → Prop} (hK : ∀ (k n pc : Nat) (lv : List (Option Value)) (st : List Value) (w : hw_H), K k n pc lv st w → hw_J p l e R s m args below meth c Q 7 g A k n pc lv st w) (rt : ∀ {k n pc : Nat} {lv : List (Option Value)} {x : Int32} {w : hw_H}, decode cb_Mo_isNumber pc = .ok (.ireturn, 1) → PR k n x w → hw_J p l e R s m args below meth c Q 7 g A k n pc lv [.int x] w) {a0 : Nat} {x1 : Int32} {x2 : Int32} {x3 : Int32} {x4 : Int32} {x5 : Int32} {x6 : Int32} (vc : vc_Mo_isNumber_66 l g R K PR k n a0 x1 x2 x3 x4 x5 x6 w) : hw_J p l e R s m args below meth c Q 7 g A k n 66 [some (.ref a0), some (.int x1), some (.int x2), some (.int x3), some (.int x4), some (.int x5), some (.int x6)] [] w := by
  unfold vc_Mo_isNumber_66 at vc
  refine hw_iload X dd_Mo_isNumber_66 rfl ?_
  refine hw_aload_n X (Or.inr ⟨_, rfl⟩) dd_Mo_isNumber_68 rfl ?_
  obtain ⟨b_1, h9, vc⟩ := vc
  refine hw_get X (fe_Mo_16 X) h9 dd_Mo_isNumber_69 ?_
  refine hw_aload_n X (Or.inr ⟨_, rfl⟩) dd_Mo_isNumber_72 rfl ?_
  obtain ⟨x_2, h9, vc⟩ := vc
  refine hw_get X (fe_Mo_49 X) h9 dd_Mo_isNumber_73 ?_
  obtain ⟨x_3, h9, vc⟩ := vc
  refine hw_iald X h9 dd_Mo_isNumber_76 ?_
  refine hw_icmp_ge X (tgt := 115) dd_Mo_isNumber_77 rfl (fun hc => ?_) (fun hc => ?_)
  · replace vc := vc.1 hc
    refine hw_iload X dd_Mo_isNumber_115 rfl ?_
    refine hw_if_eq X (tgt := 136) dd_Mo_isNumber_117 rfl (fun hc => ?_) (fun hc => ?_)
    · replace vc := vc.1 hc
      refine hw_iconst X (v := 0) dd_Mo_isNumber_136 (by decide) ?_
      exact rt dd_Mo_isNumber_137 vc
    · replace vc := vc.2 hc
      refine hw_aload_n X (Or.inr ⟨_, rfl⟩) dd_Mo_isNumber_120 rfl ?_
      obtain ⟨hob, rm9, po9, hM9, hf9, hc9, vc⟩ := vc
      refine hw_callVi X (As := []) (ye_Mo_68 X) hM9 rfl hf9 hc9 hob (Nat.le_of_ble_eq_true rfl) rfl dd_Mo_isNumber_121 (fun x_7 w4 hp => ?_)
      replace vc := vc x_7 w4 hp
      refine hw_iload_n X dd_Mo_isNumber_124 rfl ?_
      refine hw_iload_n X dd_Mo_isNumber_125 rfl ?_
      obtain ⟨rm9, po9, hM9, hf9, hc9, vc⟩ := vc
      refine hw_callSi X (As := [.int x_7, .int x1, .int x2]) (ye_Mo_38 X) hM9 rfl hf9 hc9 (Nat.le_of_ble_eq_true rfl) rfl dd_Mo_isNumber_126 (fun x_11 w8 hp => ?_)
      replace vc := vc x_11 w8 hp
      refine hw_if_eq X (tgt := 136) dd_Mo_isNumber_129 rfl (fun hc => ?_) (fun hc => ?_)
      · replace vc := vc.1 hc
        refine hw_iconst X (v := 0) dd_Mo_isNumber_136 (by decide) ?_
        exact rt dd_Mo_isNumber_137 vc
      · replace vc := vc.2 hc
        refine hw_iconst X (v := 1) dd_Mo_isNumber_132 (by decide) ?_
        refine hw_goto X (tgt := 137) dd_Mo_isNumber_133 rfl ?_
        exact rt dd_Mo_isNumber_137 vc
  · replace vc := vc.2 hc
    refine hw_iload X dd_Mo_isNumber_80 rfl ?_
    refine hw_if_eq X (tgt := 106) dd_Mo_isNumber_82 rfl (fun hc => ?_) (fun hc => ?_)
    · replace vc := vc.1 hc
      refine hw_iconst X (v := 0) dd_Mo_isNumber_106 (by decide) ?_
      refine hw_istore X dd_Mo_isNumber_107 (by decide) rfl ?_
      refine hw_iinc X (v := (x6 + 1)) dd_Mo_isNumber_109 rfl rfl (by decide) rfl ?_
      refine hw_goto X (tgt := 66) dd_Mo_isNumber_112 rfl ?_
      exact hK _ _ _ _ _ _ vc
    · replace vc := vc.2 hc
      refine hw_aload_n X (Or.inr ⟨_, rfl⟩) dd_Mo_isNumber_85 rfl ?_
      obtain ⟨b_12, h9, vc⟩ := vc
      refine hw_get X (fe_Mo_7 X) h9 dd_Mo_isNumber_86 ?_
      refine hw_iload X dd_Mo_isNumber_89 rfl ?_
      obtain ⟨x_13, h9, vc⟩ := vc
      refine hw_iald X h9 dd_Mo_isNumber_91 ?_
      refine hw_bipush X (v := 48) dd_Mo_isNumber_92 (by decide) ?_
      refine hw_bipush X (v := 57) dd_Mo_isNumber_94 (by decide) ?_
      obtain ⟨rm9, po9, hM9, hf9, hc9, vc⟩ := vc
      refine hw_callSi X (As := [.int x_13, .int (48 : Int32), .int (57 : Int32)]) (ye_Mo_38 X) hM9 rfl hf9 hc9 (Nat.le_of_ble_eq_true rfl) rfl dd_Mo_isNumber_96 (fun x_17 w14 hp => ?_)
      replace vc := vc x_17 w14 hp
      refine hw_if_eq X (tgt := 106) dd_Mo_isNumber_99 rfl (fun hc => ?_) (fun hc => ?_)
      · replace vc := vc.1 hc
        refine hw_iconst X (v := 0) dd_Mo_isNumber_106 (by decide) ?_
        refine hw_istore X dd_Mo_isNumber_107 (by decide) rfl ?_
        refine hw_iinc X (v := (x6 + 1)) dd_Mo_isNumber_109 rfl rfl (by decide) rfl ?_
        refine hw_goto X (tgt := 66) dd_Mo_isNumber_112 rfl ?_
        exact hK _ _ _ _ _ _ vc
      · replace vc := vc.2 hc
        refine hw_iconst X (v := 1) dd_Mo_isNumber_102 (by decide) ?_
        refine hw_goto X (tgt := 107) dd_Mo_isNumber_103 rfl ?_
        refine hw_istore X dd_Mo_isNumber_107 (by decide) rfl ?_
        refine hw_iinc X (v := (x6 + 1)) dd_Mo_isNumber_109 rfl rfl (by decide) rfl ?_
        refine hw_goto X (tgt := 66) dd_Mo_isNumber_112 rfl ?_
        exact hK _ _ _ _ _ _ vc
end
section
variable {p : Program} {l : Launch} {e : Env} {R : Room} {s : State} {m : MethodId} {args : Array Value} {below : List Frame} {meth : Method} {c : Code} {Q : State → Prop} {g : hw_G} {A : Nat → Prop} {k n : Nat} {w : hw_H}
def vc_Mo_worth_0 (l : Launch) (g : hw_G) (R : Room) (K : Nat → Nat → Nat → List (Option Value) → List Value → hw_H → Prop) (PR : Nat → Nat → Int32 → hw_H → Prop) (k n : Nat) (a0 : Nat) (w : hw_H) : Prop := ∃ b_1 : Nat, hw_g w a0 8 3 (.ref b_1) ∧ (∃ x_2 : Int32, hw_g w a0 8 5 (.int x_2) ∧ (∃ x_3 : Int32, hw_ai g 0 w b_1 x_2 x_3 ∧ (K k n 14 [some (.ref a0), some (.int x_3), some (.int (0 : Int32)), some (.int x_3)] [] w)))
set_option maxHeartbeats 4000000 in
set_option maxRecDepth 100000 in
theorem sg_Mo_worth_0 (X : hw_X p m c cb_Mo_worth 4 s args (mw_Mo_worth) "ProofCourtModel" g A) {K : Nat → Nat → Nat → List (Option Value) → List Value → hw_H → Prop} {PR : Nat → Nat → Int32 → hw_H → Prop} (hK : ∀ (k n pc : Nat) (lv : List (Option Value)) (st : List Value) (w : hw_H), K k n pc lv st w → hw_J p l e R s m args below meth c Q 4 g A k n pc lv st w) (rt : ∀ {k n pc : Nat} {lv : List (Option Value)} {x : Int32} {w : hw_H}, decode cb_Mo_worth pc = .ok (.ireturn, 1) → PR k n x w → hw_J p l e R s m args below meth c Q 4 g A k n pc lv [.int x] w) {a0 : Nat} (vc : vc_Mo_worth_0 l g R K PR k n a0 w) : hw_J p l e R s m args below meth c Q 4 g A k n 0 [some (.ref a0), none, none, none] [] w := by
  unfold vc_Mo_worth_0 at vc
  refine hw_aload_n X (Or.inr ⟨_, rfl⟩) dd_Mo_worth_0 rfl ?_
  obtain ⟨b_1, h9, vc⟩ := vc
  refine hw_get X (fe_Mo_13 X) h9 dd_Mo_worth_1 ?_
  refine hw_aload_n X (Or.inr ⟨_, rfl⟩) dd_Mo_worth_4 rfl ?_
  obtain ⟨x_2, h9, vc⟩ := vc
  refine hw_get X (fe_Mo_49 X) h9 dd_Mo_worth_5 ?_
  obtain ⟨x_3, h9, vc⟩ := vc
  refine hw_iald X h9 dd_Mo_worth_8 ?_
  refine hw_istore_n X dd_Mo_worth_9 (by decide) rfl ?_
  refine hw_iconst X (v := 0) dd_Mo_worth_10 (by decide) ?_
  refine hw_istore_n X dd_Mo_worth_11 (by decide) rfl ?_
  refine hw_iload_n X dd_Mo_worth_12 rfl ?_
  refine hw_istore_n X dd_Mo_worth_13 (by decide) rfl ?_
  exact hK _ _ _ _ _ _ vc
def vc_Mo_worth_14 (l : Launch) (g : hw_G) (R : Room) (K : Nat → Nat → Nat → List (Option Value) → List Value → hw_H → Prop) (PR : Nat → Nat → Int32 → hw_H → Prop) (k n : Nat) (a0 : Nat) (x1 : Int32) (x2 : Int32) (x3 : Int32) (w : hw_H) : Prop := ∃ b_1 : Nat, hw_g w a0 8 4 (.ref b_1) ∧ (∃ x_2 : Int32, hw_g w a0 8 5 (.int x_2) ∧ (∃ x_3 : Int32, hw_ai g 0 w b_1 x_2 x_3 ∧ (((x_3 ≤ x3) → (∃ b_4 : Nat, hw_g w a0 8 0 (.ref b_4) ∧ (∃ x_5 : Int32, hw_ai g 0 w b_4 x1 x_5 ∧ (((¬ x_5 = (45 : Int32)) → (PR k n x2 w)) ∧ ((x_5 = (45 : Int32)) → (PR k n (-x2) w)))))) ∧ ((¬ x_3 ≤ x3) → (∃ b_6 : Nat, hw_g w a0 8 0 (.ref b_6) ∧ (∃ x_7 : Int32, hw_ai g 0 w b_6 x3 x_7 ∧ (((¬ x_7 = (45 : Int32)) → (∃ b_8 : Nat, hw_g w a0 8 0 (.ref b_8) ∧ (∃ x_9 : Int32, hw_ai g 0 w b_8 x3 x_9 ∧ (∀ y10 : Int32, y10 = ((((10 : Int32) * x2) + x_9) - (48 : Int32)) → (K k n 14 [some (.ref a0), some (.int x1), some (.int y10), some (.int (x3 + 1))] [] w))))) ∧ ((x_7 = (45 : Int32)) → (K k n 14 [some (.ref a0), some (.int x1), some (.int x2), some (.int (x3 + 1))] [] w)))))))))
set_option maxHeartbeats 4000000 in
set_option maxRecDepth 100000 in
theorem sg_Mo_worth_14 (X : hw_X p m c cb_Mo_worth 4 s args (mw_Mo_worth) "ProofCourtModel" g A) {K : Nat → Nat → Nat → List (Option Value) → List Value → hw_H → Prop} {PR : Nat → Nat → Int32 → hw_H → Prop} (hK : ∀ (k n pc : Nat) (lv : List (Option Value)) (st : List Value) (w : hw_H), K k n pc lv st w → hw_J p l e R s m args below meth c Q 4 g A k n pc lv st w) (rt : ∀ {k n pc : Nat} {lv : List (Option Value)} {x : Int32} {w : hw_H}, decode cb_Mo_worth pc = .ok (.ireturn, 1) → PR k n x w → hw_J p l e R s m args below meth c Q 4 g A k n pc lv [.int x] w) {a0 : Nat} {x1 : Int32} {x2 : Int32} {x3 : Int32} (vc : vc_Mo_worth_14 l g R K PR k n a0 x1 x2 x3 w) : hw_J p l e R s m args below meth c Q 4 g A k n 14 [some (.ref a0), some (.int x1), some (.int x2), some (.int x3)] [] w := by
  unfold vc_Mo_worth_14 at vc
  refine hw_iload_n X dd_Mo_worth_14 rfl ?_
  refine hw_aload_n X (Or.inr ⟨_, rfl⟩) dd_Mo_worth_15 rfl ?_
  obtain ⟨b_1, h9, vc⟩ := vc
  refine hw_get X (fe_Mo_16 X) h9 dd_Mo_worth_16 ?_
  refine hw_aload_n X (Or.inr ⟨_, rfl⟩) dd_Mo_worth_19 rfl ?_
  obtain ⟨x_2, h9, vc⟩ := vc
  refine hw_get X (fe_Mo_49 X) h9 dd_Mo_worth_20 ?_
  obtain ⟨x_3, h9, vc⟩ := vc
  refine hw_iald X h9 dd_Mo_worth_23 ?_
  refine hw_icmp_ge X (tgt := 63) dd_Mo_worth_24 rfl (fun hc => ?_) (fun hc => ?_)
  · replace vc := vc.1 hc
    refine hw_aload_n X (Or.inr ⟨_, rfl⟩) dd_Mo_worth_63 rfl ?_
    obtain ⟨b_4, h9, vc⟩ := vc
    refine hw_get X (fe_Mo_7 X) h9 dd_Mo_worth_64 ?_
    refine hw_iload_n X dd_Mo_worth_67 rfl ?_
    obtain ⟨x_5, h9, vc⟩ := vc
    refine hw_iald X h9 dd_Mo_worth_68 ?_
    refine hw_bipush X (v := 45) dd_Mo_worth_69 (by decide) ?_
    refine hw_icmp_ne X (tgt := 79) dd_Mo_worth_71 rfl (fun hc => ?_) (fun hc => ?_)
    · replace vc := vc.1 hc
      refine hw_iload_n X dd_Mo_worth_79 rfl ?_
      exact rt dd_Mo_worth_80 vc
    · replace vc := vc.2 hc
      refine hw_iload_n X dd_Mo_worth_74 rfl ?_
      refine hw_ineg X dd_Mo_worth_75 ?_
      refine hw_goto X (tgt := 80) dd_Mo_worth_76 rfl ?_
      exact rt dd_Mo_worth_80 vc
  · replace vc := vc.2 hc
    refine hw_aload_n X (Or.inr ⟨_, rfl⟩) dd_Mo_worth_27 rfl ?_
    obtain ⟨b_6, h9, vc⟩ := vc
    refine hw_get X (fe_Mo_7 X) h9 dd_Mo_worth_28 ?_
    refine hw_iload_n X dd_Mo_worth_31 rfl ?_
    obtain ⟨x_7, h9, vc⟩ := vc
    refine hw_iald X h9 dd_Mo_worth_32 ?_
    refine hw_bipush X (v := 45) dd_Mo_worth_33 (by decide) ?_
    refine hw_icmp_ne X (tgt := 42) dd_Mo_worth_35 rfl (fun hc => ?_) (fun hc => ?_)
    · replace vc := vc.1 hc
      refine hw_bipush X (v := 10) dd_Mo_worth_42 (by decide) ?_
      refine hw_iload_n X dd_Mo_worth_44 rfl ?_
      refine hw_imul X dd_Mo_worth_45 ?_
      refine hw_aload_n X (Or.inr ⟨_, rfl⟩) dd_Mo_worth_46 rfl ?_
      obtain ⟨b_8, h9, vc⟩ := vc
      refine hw_get X (fe_Mo_7 X) h9 dd_Mo_worth_47 ?_
      refine hw_iload_n X dd_Mo_worth_50 rfl ?_
      obtain ⟨x_9, h9, vc⟩ := vc
      refine hw_iald X h9 dd_Mo_worth_51 ?_
      refine hw_iadd X dd_Mo_worth_52 ?_
      refine hw_bipush X (v := 48) dd_Mo_worth_53 (by decide) ?_
      refine hw_isub X dd_Mo_worth_55 ?_
      refine hw_top (fun y10 ey10 => ?_)
      replace vc := vc y10 ey10
      refine hw_istore_n X dd_Mo_worth_56 (by decide) rfl ?_
      refine hw_iinc X (v := (x3 + 1)) dd_Mo_worth_57 rfl rfl (by decide) rfl ?_
      refine hw_goto X (tgt := 14) dd_Mo_worth_60 rfl ?_
      exact hK _ _ _ _ _ _ vc
    · replace vc := vc.2 hc
      refine hw_iload_n X dd_Mo_worth_38 rfl ?_
      refine hw_goto X (tgt := 56) dd_Mo_worth_39 rfl ?_
      refine hw_istore_n X dd_Mo_worth_56 (by decide) rfl ?_
      refine hw_iinc X (v := (x3 + 1)) dd_Mo_worth_57 rfl rfl (by decide) rfl ?_
      refine hw_goto X (tgt := 14) dd_Mo_worth_60 rfl ?_
      exact hK _ _ _ _ _ _ vc
end
section
variable {p : Program} {l : Launch} {e : Env} {R : Room} {s : State} {m : MethodId} {args : Array Value} {below : List Frame} {meth : Method} {c : Code} {Q : State → Prop} {g : hw_G} {A : Nat → Prop} {k n : Nat} {w : hw_H}
def vc_Mo_take_0 (l : Launch) (g : hw_G) (R : Room) (K : Nat → Nat → Nat → List (Option Value) → List Value → hw_H → Prop) (PR : Nat → Nat → Int32 → hw_H → Prop) (k n : Nat) (a0 : Nat) (x1 : Int32) (x2 : Int32) (w : hw_H) : Prop := ∃ x_1 : Int32, hw_g w a0 8 7 (.int x_1) ∧ (((x_1 < 0) → (hw_o w a0 "ProofCourtModel" ∧ hw_ci l g R k n ym_Mo_isNumber (mw_Mo_isNumber) 7 [.ref a0, .int x1, .int x2] w (fun (k3 n4 : Nat) (x_5 : Int32) (w2 : hw_H) => ((¬ x_5 = 0) → (hw_o w2 a0 "ProofCourtModel" ∧ hw_ci l g R k3 n4 ym_Mo_worth (mw_Mo_worth) 4 [.ref a0] w2 (fun (k7 n8 : Nat) (x_9 : Int32) (w6 : hw_H) => ∃ x_10 : Int32, hw_g w6 a0 8 5 (.int x_10) ∧ (∃ w11 : hw_H, hw_p w6 a0 8 5 (.int (x_10 + (1 : Int32))) w11 ∧ (PR k7 n8 x_9 w11))))) ∧ ((x_5 = 0) → (hw_o w2 a0 "ProofCourtModel" ∧ hw_cv l g R k3 n4 ym_Mo_fail (mw_Mo_fail) 1 [.ref a0] w2 (fun (k13 n14 : Nat) (w12 : hw_H) => PR k13 n14 (0 : Int32) w12)))))) ∧ ((¬ x_1 < 0) → (PR k n (0 : Int32) w)))
set_option maxHeartbeats 4000000 in
set_option maxRecDepth 100000 in
theorem sg_Mo_take_0 (X : hw_X p m c cb_Mo_take 4 s args (mw_Mo_take) "ProofCourtModel" g A) {K : Nat → Nat → Nat → List (Option Value) → List Value → hw_H → Prop} {PR : Nat → Nat → Int32 → hw_H → Prop} (hK : ∀ (k n pc : Nat) (lv : List (Option Value)) (st : List Value) (w : hw_H), K k n pc lv st w → hw_J p l e R s m args below meth c Q 4 g A k n pc lv st w) (rt : ∀ {k n pc : Nat} {lv : List (Option Value)} {x : Int32} {w : hw_H}, decode cb_Mo_take pc = .ok (.ireturn, 1) → PR k n x w → hw_J p l e R s m args below meth c Q 4 g A k n pc lv [.int x] w) {a0 : Nat} {x1 : Int32} {x2 : Int32} (vc : vc_Mo_take_0 l g R K PR k n a0 x1 x2 w) : hw_J p l e R s m args below meth c Q 4 g A k n 0 [some (.ref a0), some (.int x1), some (.int x2), none] [] w := by
  unfold vc_Mo_take_0 at vc
  refine hw_aload_n X (Or.inr ⟨_, rfl⟩) dd_Mo_take_0 rfl ?_
  obtain ⟨x_1, h9, vc⟩ := vc
  refine hw_get X (fe_Mo_52 X) h9 dd_Mo_take_1 ?_
  refine hw_if_lt X (tgt := 9) dd_Mo_take_4 rfl (fun hc => ?_) (fun hc => ?_)
  · replace vc := vc.1 hc
    refine hw_aload_n X (Or.inr ⟨_, rfl⟩) dd_Mo_take_9 rfl ?_
    refine hw_iload_n X dd_Mo_take_10 rfl ?_
    refine hw_iload_n X dd_Mo_take_11 rfl ?_
    obtain ⟨hob, rm9, po9, hM9, hf9, hc9, vc⟩ := vc
    refine hw_callVi X (As := [.int x1, .int x2]) (ye_Mo_72 X) hM9 rfl hf9 hc9 hob (Nat.le_of_ble_eq_true rfl) rfl dd_Mo_take_12 (fun x_5 w2 hp => ?_)
    replace vc := vc x_5 w2 hp
    refine hw_if_ne X (tgt := 24) dd_Mo_take_15 rfl (fun hc => ?_) (fun hc => ?_)
    · replace vc := vc.1 hc
      refine hw_aload_n X (Or.inr ⟨_, rfl⟩) dd_Mo_take_24 rfl ?_
      obtain ⟨hob, rm9, po9, hM9, hf9, hc9, vc⟩ := vc
      refine hw_callVi X (As := []) (ye_Mo_68 X) hM9 rfl hf9 hc9 hob (Nat.le_of_ble_eq_true rfl) rfl dd_Mo_take_25 (fun x_9 w6 hp => ?_)
      replace vc := vc x_9 w6 hp
      refine hw_istore_n X dd_Mo_take_28 (by decide) rfl ?_
      refine hw_aload_n X (Or.inr ⟨_, rfl⟩) dd_Mo_take_29 rfl ?_
      refine hw_aload_n X (Or.inr ⟨_, rfl⟩) dd_Mo_take_30 rfl ?_
      obtain ⟨x_10, h9, vc⟩ := vc
      refine hw_get X (fe_Mo_49 X) h9 dd_Mo_take_31 ?_
      refine hw_iconst X (v := 1) dd_Mo_take_34 (by decide) ?_
      refine hw_iadd X dd_Mo_take_35 ?_
      obtain ⟨w11, h9, vc⟩ := vc
      refine hw_put X (fp_Mo_49 X) rfl rfl h9 dd_Mo_take_36 ?_
      refine hw_iload_n X dd_Mo_take_39 rfl ?_
      exact rt dd_Mo_take_40 vc
    · replace vc := vc.2 hc
      refine hw_aload_n X (Or.inr ⟨_, rfl⟩) dd_Mo_take_18 rfl ?_
      obtain ⟨hob, rm9, po9, hM9, hf9, hc9, vc⟩ := vc
      refine hw_callVv X (As := []) (ye_Mo_65 X) hM9 rfl hf9 hc9 hob (Nat.le_of_ble_eq_true rfl) rfl dd_Mo_take_19 (fun w12 hp => ?_)
      replace vc := vc w12 hp
      refine hw_iconst X (v := 0) dd_Mo_take_22 (by decide) ?_
      exact rt dd_Mo_take_23 vc
  · replace vc := vc.2 hc
    refine hw_iconst X (v := 0) dd_Mo_take_7 (by decide) ?_
    exact rt dd_Mo_take_8 vc
end
section
variable {p : Program} {l : Launch} {e : Env} {R : Room} {s : State} {m : MethodId} {args : Array Value} {below : List Frame} {meth : Method} {c : Code} {Q : State → Prop} {g : hw_G} {A : Nat → Prop} {k n : Nat} {w : hw_H}
def vc_Mo_literalOf_0 (l : Launch) (g : hw_G) (R : Room) (K : Nat → Nat → Nat → List (Option Value) → List Value → hw_H → Prop) (PR : Nat → Nat → Int32 → hw_H → Prop) (k n : Nat) (a0 : Nat) (x1 : Int32) (x2 : Int32) (w : hw_H) : Prop := ∃ b_1 : Nat, hw_g w a0 8 10 (.ref b_1) ∧ (∃ x_2 : Int32, hw_ai g 0 w b_1 (((6 : Int32) * x1) + x2) x_2 ∧ (PR k n x_2 w))
set_option maxHeartbeats 4000000 in
set_option maxRecDepth 100000 in
theorem sg_Mo_literalOf_0 (X : hw_X p m c cb_Mo_literalOf 3 s args (mw_Mo_literalOf) "ProofCourtModel" g A) {K : Nat → Nat → Nat → List (Option Value) → List Value → hw_H → Prop} {PR : Nat → Nat → Int32 → hw_H → Prop} (hK : ∀ (k n pc : Nat) (lv : List (Option Value)) (st : List Value) (w : hw_H), K k n pc lv st w → hw_J p l e R s m args below meth c Q 3 g A k n pc lv st w) (rt : ∀ {k n pc : Nat} {lv : List (Option Value)} {x : Int32} {w : hw_H}, decode cb_Mo_literalOf pc = .ok (.ireturn, 1) → PR k n x w → hw_J p l e R s m args below meth c Q 3 g A k n pc lv [.int x] w) {a0 : Nat} {x1 : Int32} {x2 : Int32} (vc : vc_Mo_literalOf_0 l g R K PR k n a0 x1 x2 w) : hw_J p l e R s m args below meth c Q 3 g A k n 0 [some (.ref a0), some (.int x1), some (.int x2)] [] w := by
  unfold vc_Mo_literalOf_0 at vc
  refine hw_aload_n X (Or.inr ⟨_, rfl⟩) dd_Mo_literalOf_0 rfl ?_
  obtain ⟨b_1, h9, vc⟩ := vc
  refine hw_get X (fe_Mo_22 X) h9 dd_Mo_literalOf_1 ?_
  refine hw_bipush X (v := 6) dd_Mo_literalOf_4 (by decide) ?_
  refine hw_iload_n X dd_Mo_literalOf_6 rfl ?_
  refine hw_imul X dd_Mo_literalOf_7 ?_
  refine hw_iload_n X dd_Mo_literalOf_8 rfl ?_
  refine hw_iadd X dd_Mo_literalOf_9 ?_
  obtain ⟨x_2, h9, vc⟩ := vc
  refine hw_iald X h9 dd_Mo_literalOf_10 ?_
  exact rt dd_Mo_literalOf_11 vc
end
section
variable {p : Program} {l : Launch} {e : Env} {R : Room} {s : State} {m : MethodId} {args : Array Value} {below : List Frame} {meth : Method} {c : Code} {Q : State → Prop} {g : hw_G} {A : Nat → Prop} {k n : Nat} {w : hw_H}
def vc_Mo_hasLiteral_0 (l : Launch) (g : hw_G) (R : Room) (K : Nat → Nat → Nat → List (Option Value) → List Value → hw_H → Prop) (PR : Nat → Nat → Int32 → hw_H → Prop) (k n : Nat) (a0 : Nat) (x1 : Int32) (x2 : Int32) (w : hw_H) : Prop := K k n 5 [some (.ref a0), some (.int x1), some (.int x2), some (.int (0 : Int32)), some (.int (0 : Int32))] [] w
set_option maxHeartbeats 4000000 in
set_option maxRecDepth 100000 in
theorem sg_Mo_hasLiteral_0 (X : hw_X p m c cb_Mo_hasLiteral 5 s args (mw_Mo_hasLiteral) "ProofCourtModel" g A) {K : Nat → Nat → Nat → List (Option Value) → List Value → hw_H → Prop} {PR : Nat → Nat → Int32 → hw_H → Prop} (hK : ∀ (k n pc : Nat) (lv : List (Option Value)) (st : List Value) (w : hw_H), K k n pc lv st w → hw_J p l e R s m args below meth c Q 5 g A k n pc lv st w) (rt : ∀ {k n pc : Nat} {lv : List (Option Value)} {x : Int32} {w : hw_H}, decode cb_Mo_hasLiteral pc = .ok (.ireturn, 1) → PR k n x w → hw_J p l e R s m args below meth c Q 5 g A k n pc lv [.int x] w) {a0 : Nat} {x1 : Int32} {x2 : Int32} (vc : vc_Mo_hasLiteral_0 l g R K PR k n a0 x1 x2 w) : hw_J p l e R s m args below meth c Q 5 g A k n 0 [some (.ref a0), some (.int x1), some (.int x2), none, none] [] w := by
  unfold vc_Mo_hasLiteral_0 at vc
  refine hw_iconst X (v := 0) dd_Mo_hasLiteral_0 (by decide) ?_
  refine hw_istore_n X dd_Mo_hasLiteral_1 (by decide) rfl ?_
  refine hw_iconst X (v := 0) dd_Mo_hasLiteral_2 (by decide) ?_
  refine hw_istore X dd_Mo_hasLiteral_3 (by decide) rfl ?_
  exact hK _ _ _ _ _ _ vc
def vc_Mo_hasLiteral_5 (l : Launch) (g : hw_G) (R : Room) (K : Nat → Nat → Nat → List (Option Value) → List Value → hw_H → Prop) (PR : Nat → Nat → Int32 → hw_H → Prop) (k n : Nat) (a0 : Nat) (x1 : Int32) (x2 : Int32) (x3 : Int32) (x4 : Int32) (w : hw_H) : Prop := ∃ b_1 : Nat, hw_g w a0 8 9 (.ref b_1) ∧ (∃ x_2 : Int32, hw_ai g 0 w b_1 x1 x_2 ∧ (((x_2 ≤ x4) → (PR k n x3 w)) ∧ ((¬ x_2 ≤ x4) → (((¬ x3 = 0) → (K k n 5 [some (.ref a0), some (.int x1), some (.int x2), some (.int (1 : Int32)), some (.int (x4 + 1))] [] w)) ∧ ((x3 = 0) → (hw_o w a0 "ProofCourtModel" ∧ hw_ci l g R k n ym_Mo_literalOf (mw_Mo_literalOf) 3 [.ref a0, .int x1, .int x4] w (fun (k4 n5 : Nat) (x_6 : Int32) (w3 : hw_H) => ((¬ x_6 = x2) → (K k4 n5 5 [some (.ref a0), some (.int x1), some (.int x2), some (.int (0 : Int32)), some (.int (x4 + 1))] [] w3)) ∧ ((x_6 = x2) → (K k4 n5 5 [some (.ref a0), some (.int x1), some (.int x2), some (.int (1 : Int32)), some (.int (x4 + 1))] [] w3)))))))))
set_option maxHeartbeats 4000000 in
set_option maxRecDepth 100000 in
theorem sg_Mo_hasLiteral_5 (X : hw_X p m c cb_Mo_hasLiteral 5 s args (mw_Mo_hasLiteral) "ProofCourtModel" g A) {K : Nat → Nat → Nat → List (Option Value) → List Value → hw_H → Prop} {PR : Nat → Nat → Int32 → hw_H → Prop} (hK : ∀ (k n pc : Nat) (lv : List (Option Value)) (st : List Value) (w : hw_H), K k n pc lv st w → hw_J p l e R s m args below meth c Q 5 g A k n pc lv st w) (rt : ∀ {k n pc : Nat} {lv : List (Option Value)} {x : Int32} {w : hw_H}, decode cb_Mo_hasLiteral pc = .ok (.ireturn, 1) → PR k n x w → hw_J p l e R s m args below meth c Q 5 g A k n pc lv [.int x] w) {a0 : Nat} {x1 : Int32} {x2 : Int32} {x3 : Int32} {x4 : Int32} (vc : vc_Mo_hasLiteral_5 l g R K PR k n a0 x1 x2 x3 x4 w) : hw_J p l e R s m args below meth c Q 5 g A k n 5 [some (.ref a0), some (.int x1), some (.int x2), some (.int x3), some (.int x4)] [] w := by
  unfold vc_Mo_hasLiteral_5 at vc
  refine hw_iload X dd_Mo_hasLiteral_5 rfl ?_
  refine hw_aload_n X (Or.inr ⟨_, rfl⟩) dd_Mo_hasLiteral_7 rfl ?_
  obtain ⟨b_1, h9, vc⟩ := vc
  refine hw_get X (fe_Mo_19 X) h9 dd_Mo_hasLiteral_8 ?_
  refine hw_iload_n X dd_Mo_hasLiteral_11 rfl ?_
  obtain ⟨x_2, h9, vc⟩ := vc
  refine hw_iald X h9 dd_Mo_hasLiteral_12 ?_
  refine hw_icmp_ge X (tgt := 43) dd_Mo_hasLiteral_13 rfl (fun hc => ?_) (fun hc => ?_)
  · replace vc := vc.1 hc
    refine hw_iload_n X dd_Mo_hasLiteral_43 rfl ?_
    exact rt dd_Mo_hasLiteral_44 vc
  · replace vc := vc.2 hc
    refine hw_iload_n X dd_Mo_hasLiteral_16 rfl ?_
    refine hw_if_ne X (tgt := 31) dd_Mo_hasLiteral_17 rfl (fun hc => ?_) (fun hc => ?_)
    · replace vc := vc.1 hc
      refine hw_iconst X (v := 1) dd_Mo_hasLiteral_31 (by decide) ?_
      refine hw_goto X (tgt := 36) dd_Mo_hasLiteral_32 rfl ?_
      refine hw_istore_n X dd_Mo_hasLiteral_36 (by decide) rfl ?_
      refine hw_iinc X (v := (x4 + 1)) dd_Mo_hasLiteral_37 rfl rfl (by decide) rfl ?_
      refine hw_goto X (tgt := 5) dd_Mo_hasLiteral_40 rfl ?_
      exact hK _ _ _ _ _ _ vc
    · replace vc := vc.2 hc
      refine hw_aload_n X (Or.inr ⟨_, rfl⟩) dd_Mo_hasLiteral_20 rfl ?_
      refine hw_iload_n X dd_Mo_hasLiteral_21 rfl ?_
      refine hw_iload X dd_Mo_hasLiteral_22 rfl ?_
      obtain ⟨hob, rm9, po9, hM9, hf9, hc9, vc⟩ := vc
      refine hw_callVi X (As := [.int x1, .int x4]) (ye_Mo_76 X) hM9 rfl hf9 hc9 hob (Nat.le_of_ble_eq_true rfl) rfl dd_Mo_hasLiteral_24 (fun x_6 w3 hp => ?_)
      replace vc := vc x_6 w3 hp
      refine hw_iload_n X dd_Mo_hasLiteral_27 rfl ?_
      refine hw_icmp_ne X (tgt := 35) dd_Mo_hasLiteral_28 rfl (fun hc => ?_) (fun hc => ?_)
      · replace vc := vc.1 hc
        refine hw_iconst X (v := 0) dd_Mo_hasLiteral_35 (by decide) ?_
        refine hw_istore_n X dd_Mo_hasLiteral_36 (by decide) rfl ?_
        refine hw_iinc X (v := (x4 + 1)) dd_Mo_hasLiteral_37 rfl rfl (by decide) rfl ?_
        refine hw_goto X (tgt := 5) dd_Mo_hasLiteral_40 rfl ?_
        exact hK _ _ _ _ _ _ vc
      · replace vc := vc.2 hc
        refine hw_iconst X (v := 1) dd_Mo_hasLiteral_31 (by decide) ?_
        refine hw_goto X (tgt := 36) dd_Mo_hasLiteral_32 rfl ?_
        refine hw_istore_n X dd_Mo_hasLiteral_36 (by decide) rfl ?_
        refine hw_iinc X (v := (x4 + 1)) dd_Mo_hasLiteral_37 rfl rfl (by decide) rfl ?_
        refine hw_goto X (tgt := 5) dd_Mo_hasLiteral_40 rfl ?_
        exact hK _ _ _ _ _ _ vc
end
section
variable {p : Program} {l : Launch} {e : Env} {R : Room} {s : State} {m : MethodId} {args : Array Value} {below : List Frame} {meth : Method} {c : Code} {Q : State → Prop} {g : hw_G} {A : Nat → Prop} {k n : Nat} {w : hw_H}
def vc_Mo_copy_0 (l : Launch) (g : hw_G) (R : Room) (K : Nat → Nat → Nat → List (Option Value) → List Value → hw_H → Prop) (PR : Nat → Nat → hw_H → Prop) (k n : Nat) (a0 : Nat) (x1 : Int32) (x2 : Int32) (w : hw_H) : Prop := ∃ b_1 : Nat, hw_g w a0 8 9 (.ref b_1) ∧ (∃ b_2 : Nat, hw_g w a0 8 9 (.ref b_2) ∧ (∃ x_3 : Int32, hw_ai g 0 w b_2 x1 x_3 ∧ (∃ w4 : hw_H, hw_as g 0 w b_1 x2 x_3 w4 ∧ (K k n 14 [some (.ref a0), some (.int x1), some (.int x2), some (.int (0 : Int32))] [] w4))))
set_option maxHeartbeats 4000000 in
set_option maxRecDepth 100000 in
theorem sg_Mo_copy_0 (X : hw_X p m c cb_Mo_copy 4 s args (mw_Mo_copy) "ProofCourtModel" g A) {K : Nat → Nat → Nat → List (Option Value) → List Value → hw_H → Prop} {PR : Nat → Nat → hw_H → Prop} (hK : ∀ (k n pc : Nat) (lv : List (Option Value)) (st : List Value) (w : hw_H), K k n pc lv st w → hw_J p l e R s m args below meth c Q 4 g A k n pc lv st w) (rt : ∀ {k n pc : Nat} {lv : List (Option Value)} {w : hw_H}, decode cb_Mo_copy pc = .ok (.return_, 1) → PR k n w → hw_J p l e R s m args below meth c Q 4 g A k n pc lv [] w) {a0 : Nat} {x1 : Int32} {x2 : Int32} (vc : vc_Mo_copy_0 l g R K PR k n a0 x1 x2 w) : hw_J p l e R s m args below meth c Q 4 g A k n 0 [some (.ref a0), some (.int x1), some (.int x2), none] [] w := by
  unfold vc_Mo_copy_0 at vc
  refine hw_aload_n X (Or.inr ⟨_, rfl⟩) dd_Mo_copy_0 rfl ?_
  obtain ⟨b_1, h9, vc⟩ := vc
  refine hw_get X (fe_Mo_19 X) h9 dd_Mo_copy_1 ?_
  refine hw_iload_n X dd_Mo_copy_4 rfl ?_
  refine hw_aload_n X (Or.inr ⟨_, rfl⟩) dd_Mo_copy_5 rfl ?_
  obtain ⟨b_2, h9, vc⟩ := vc
  refine hw_get X (fe_Mo_19 X) h9 dd_Mo_copy_6 ?_
  refine hw_iload_n X dd_Mo_copy_9 rfl ?_
  obtain ⟨x_3, h9, vc⟩ := vc
  refine hw_iald X h9 dd_Mo_copy_10 ?_
  obtain ⟨w4, h9, vc⟩ := vc
  refine hw_iast X h9 dd_Mo_copy_11 ?_
  refine hw_iconst X (v := 0) dd_Mo_copy_12 (by decide) ?_
  refine hw_istore_n X dd_Mo_copy_13 (by decide) rfl ?_
  exact hK _ _ _ _ _ _ vc
def vc_Mo_copy_14 (l : Launch) (g : hw_G) (R : Room) (K : Nat → Nat → Nat → List (Option Value) → List Value → hw_H → Prop) (PR : Nat → Nat → hw_H → Prop) (k n : Nat) (a0 : Nat) (x1 : Int32) (x2 : Int32) (x3 : Int32) (w : hw_H) : Prop := ∃ b_1 : Nat, hw_g w a0 8 9 (.ref b_1) ∧ (∃ x_2 : Int32, hw_ai g 0 w b_1 x1 x_2 ∧ (((x_2 ≤ x3) → (PR k n w)) ∧ ((¬ x_2 ≤ x3) → (∃ b_3 : Nat, hw_g w a0 8 10 (.ref b_3) ∧ (hw_o w a0 "ProofCourtModel" ∧ hw_ci l g R k n ym_Mo_literalOf (mw_Mo_literalOf) 3 [.ref a0, .int x1, .int x3] w (fun (k5 n6 : Nat) (x_7 : Int32) (w4 : hw_H) => ∃ w8 : hw_H, hw_as g 0 w4 b_3 (((6 : Int32) * x2) + x3) x_7 w8 ∧ (K k5 n6 14 [some (.ref a0), some (.int x1), some (.int x2), some (.int (x3 + 1))] [] w8)))))))
set_option maxHeartbeats 4000000 in
set_option maxRecDepth 100000 in
theorem sg_Mo_copy_14 (X : hw_X p m c cb_Mo_copy 4 s args (mw_Mo_copy) "ProofCourtModel" g A) {K : Nat → Nat → Nat → List (Option Value) → List Value → hw_H → Prop} {PR : Nat → Nat → hw_H → Prop} (hK : ∀ (k n pc : Nat) (lv : List (Option Value)) (st : List Value) (w : hw_H), K k n pc lv st w → hw_J p l e R s m args below meth c Q 4 g A k n pc lv st w) (rt : ∀ {k n pc : Nat} {lv : List (Option Value)} {w : hw_H}, decode cb_Mo_copy pc = .ok (.return_, 1) → PR k n w → hw_J p l e R s m args below meth c Q 4 g A k n pc lv [] w) {a0 : Nat} {x1 : Int32} {x2 : Int32} {x3 : Int32} (vc : vc_Mo_copy_14 l g R K PR k n a0 x1 x2 x3 w) : hw_J p l e R s m args below meth c Q 4 g A k n 14 [some (.ref a0), some (.int x1), some (.int x2), some (.int x3)] [] w := by
  unfold vc_Mo_copy_14 at vc
  refine hw_iload_n X dd_Mo_copy_14 rfl ?_
  refine hw_aload_n X (Or.inr ⟨_, rfl⟩) dd_Mo_copy_15 rfl ?_
  obtain ⟨b_1, h9, vc⟩ := vc
  refine hw_get X (fe_Mo_19 X) h9 dd_Mo_copy_16 ?_
  refine hw_iload_n X dd_Mo_copy_19 rfl ?_
  obtain ⟨x_2, h9, vc⟩ := vc
  refine hw_iald X h9 dd_Mo_copy_20 ?_
  refine hw_icmp_ge X (tgt := 47) dd_Mo_copy_21 rfl (fun hc => ?_) (fun hc => ?_)
  · replace vc := vc.1 hc
    exact rt dd_Mo_copy_47 vc
  · replace vc := vc.2 hc
    refine hw_aload_n X (Or.inr ⟨_, rfl⟩) dd_Mo_copy_24 rfl ?_
    obtain ⟨b_3, h9, vc⟩ := vc
    refine hw_get X (fe_Mo_22 X) h9 dd_Mo_copy_25 ?_
    refine hw_bipush X (v := 6) dd_Mo_copy_28 (by decide) ?_
    refine hw_iload_n X dd_Mo_copy_30 rfl ?_
    refine hw_imul X dd_Mo_copy_31 ?_
    refine hw_iload_n X dd_Mo_copy_32 rfl ?_
    refine hw_iadd X dd_Mo_copy_33 ?_
    refine hw_aload_n X (Or.inr ⟨_, rfl⟩) dd_Mo_copy_34 rfl ?_
    refine hw_iload_n X dd_Mo_copy_35 rfl ?_
    refine hw_iload_n X dd_Mo_copy_36 rfl ?_
    obtain ⟨hob, rm9, po9, hM9, hf9, hc9, vc⟩ := vc
    refine hw_callVi X (As := [.int x1, .int x3]) (ye_Mo_76 X) hM9 rfl hf9 hc9 hob (Nat.le_of_ble_eq_true rfl) rfl dd_Mo_copy_37 (fun x_7 w4 hp => ?_)
    replace vc := vc x_7 w4 hp
    obtain ⟨w8, h9, vc⟩ := vc
    refine hw_iast X h9 dd_Mo_copy_40 ?_
    refine hw_iinc X (v := (x3 + 1)) dd_Mo_copy_41 rfl rfl (by decide) rfl ?_
    refine hw_goto X (tgt := 14) dd_Mo_copy_44 rfl ?_
    exact hK _ _ _ _ _ _ vc
end
section
variable {p : Program} {l : Launch} {e : Env} {R : Room} {s : State} {m : MethodId} {args : Array Value} {below : List Frame} {meth : Method} {c : Code} {Q : State → Prop} {g : hw_G} {A : Nat → Prop} {k n : Nat} {w : hw_H}
def vc_Mo_readClause_0 (l : Launch) (g : hw_G) (R : Room) (K : Nat → Nat → Nat → List (Option Value) → List Value → hw_H → Prop) (PR : Nat → Nat → hw_H → Prop) (k n : Nat) (a0 : Nat) (x1 : Int32) (x2 : Int32) (w : hw_H) : Prop := ∃ b_1 : Nat, hw_g w a0 8 9 (.ref b_1) ∧ (∃ w2 : hw_H, hw_as g 0 w b_1 x1 (0 : Int32) w2 ∧ (K k n 9 [some (.ref a0), some (.int x1), some (.int x2), some (.int (1 : Int32)), none, none] [] w2))
set_option maxHeartbeats 4000000 in
set_option maxRecDepth 100000 in
theorem sg_Mo_readClause_0 (X : hw_X p m c cb_Mo_readClause 6 s args (mw_Mo_readClause) "ProofCourtModel" g A) {K : Nat → Nat → Nat → List (Option Value) → List Value → hw_H → Prop} {PR : Nat → Nat → hw_H → Prop} (hK : ∀ (k n pc : Nat) (lv : List (Option Value)) (st : List Value) (w : hw_H), K k n pc lv st w → hw_J p l e R s m args below meth c Q 6 g A k n pc lv st w) (rt : ∀ {k n pc : Nat} {lv : List (Option Value)} {w : hw_H}, decode cb_Mo_readClause pc = .ok (.return_, 1) → PR k n w → hw_J p l e R s m args below meth c Q 6 g A k n pc lv [] w) {a0 : Nat} {x1 : Int32} {x2 : Int32} (vc : vc_Mo_readClause_0 l g R K PR k n a0 x1 x2 w) : hw_J p l e R s m args below meth c Q 6 g A k n 0 [some (.ref a0), some (.int x1), some (.int x2), none, none, none] [] w := by
  unfold vc_Mo_readClause_0 at vc
  refine hw_aload_n X (Or.inr ⟨_, rfl⟩) dd_Mo_readClause_0 rfl ?_
  obtain ⟨b_1, h9, vc⟩ := vc
  refine hw_get X (fe_Mo_19 X) h9 dd_Mo_readClause_1 ?_
  refine hw_iload_n X dd_Mo_readClause_4 rfl ?_
  refine hw_iconst X (v := 0) dd_Mo_readClause_5 (by decide) ?_
  obtain ⟨w2, h9, vc⟩ := vc
  refine hw_iast X h9 dd_Mo_readClause_6 ?_
  refine hw_iconst X (v := 1) dd_Mo_readClause_7 (by decide) ?_
  refine hw_istore_n X dd_Mo_readClause_8 (by decide) rfl ?_
  exact hK _ _ _ _ _ _ vc
def vc_Mo_readClause_9 (l : Launch) (g : hw_G) (R : Room) (K : Nat → Nat → Nat → List (Option Value) → List Value → hw_H → Prop) (PR : Nat → Nat → hw_H → Prop) (k n : Nat) (a0 : Nat) (x1 : Int32) (x2 : Int32) (x3 : Int32) (w : hw_H) : Prop := ((x3 = 0) → (PR k n w)) ∧ ((¬ x3 = 0) → (∃ x_1 : Int32, hw_g w a0 8 7 (.int x_1) ∧ (((0 ≤ x_1) → (PR k n w)) ∧ ((¬ 0 ≤ x_1) → (∃ x_2 : Int32, hw_g w a0 8 5 (.int x_2) ∧ (hw_o w a0 "ProofCourtModel" ∧ hw_ci l g R k n ym_Mo_take (mw_Mo_take) 4 [.ref a0, .int (-x2), .int x2] w (fun (k4 n5 : Nat) (x_6 : Int32) (w3 : hw_H) => ((x_6 = 0) → (K k4 n5 9 [some (.ref a0), some (.int x1), some (.int x2), some (.int (0 : Int32)), none, none] [] w3)) ∧ ((¬ x_6 = 0) → (hw_o w3 a0 "ProofCourtModel" ∧ hw_ci l g R k4 n5 ym_Mo_hasLiteral (mw_Mo_hasLiteral) 5 [.ref a0, .int x1, .int x_6] w3 (fun (k8 n9 : Nat) (x_10 : Int32) (w7 : hw_H) => ((¬ x_10 = 0) → (K k8 n9 9 [some (.ref a0), some (.int x1), some (.int x2), some (.int (1 : Int32)), none, none] [] w7)) ∧ ((x_10 = 0) → (∃ b_11 : Nat, hw_g w7 a0 8 9 (.ref b_11) ∧ (∃ x_12 : Int32, hw_ai g 0 w7 b_11 x1 x_12 ∧ (((¬ x_12 = (6 : Int32)) → (∃ b_13 : Nat, hw_g w7 a0 8 10 (.ref b_13) ∧ (∃ b_14 : Nat, hw_g w7 a0 8 9 (.ref b_14) ∧ (∃ x_15 : Int32, hw_ai g 0 w7 b_14 x1 x_15 ∧ (∃ w16 : hw_H, hw_as g 0 w7 b_13 (((6 : Int32) * x1) + x_15) x_6 w16 ∧ (∃ b_17 : Nat, hw_g w16 a0 8 9 (.ref b_17) ∧ (∃ b_18 : Nat, hw_g w16 a0 8 9 (.ref b_18) ∧ (∃ x_19 : Int32, hw_ai g 0 w16 b_18 x1 x_19 ∧ (∃ w20 : hw_H, hw_as g 0 w16 b_17 x1 (x_19 + (1 : Int32)) w20 ∧ (K k8 n9 9 [some (.ref a0), some (.int x1), some (.int x2), some (.int (1 : Int32)), none, none] [] w20)))))))))) ∧ ((x_12 = (6 : Int32)) → (∃ w21 : hw_H, hw_p w7 a0 8 5 (.int x_2) w21 ∧ (hw_o w21 a0 "ProofCourtModel" ∧ hw_cv l g R k8 n9 ym_Mo_fail (mw_Mo_fail) 1 [.ref a0] w21 (fun (k23 n24 : Nat) (w22 : hw_H) => K k23 n24 9 [some (.ref a0), some (.int x1), some (.int x2), some (.int (1 : Int32)), none, none] [] w22))))))))))))))))))
set_option maxHeartbeats 4000000 in
set_option maxRecDepth 100000 in
theorem sg_Mo_readClause_9 (X : hw_X p m c cb_Mo_readClause 6 s args (mw_Mo_readClause) "ProofCourtModel" g A) {K : Nat → Nat → Nat → List (Option Value) → List Value → hw_H → Prop} {PR : Nat → Nat → hw_H → Prop} (hK : ∀ (k n pc : Nat) (lv : List (Option Value)) (st : List Value) (w : hw_H), K k n pc lv st w → hw_J p l e R s m args below meth c Q 6 g A k n pc lv st w) (rt : ∀ {k n pc : Nat} {lv : List (Option Value)} {w : hw_H}, decode cb_Mo_readClause pc = .ok (.return_, 1) → PR k n w → hw_J p l e R s m args below meth c Q 6 g A k n pc lv [] w) {a0 : Nat} {x1 : Int32} {x2 : Int32} {x3 : Int32} (vc : vc_Mo_readClause_9 l g R K PR k n a0 x1 x2 x3 w) : hw_J p l e R s m args below meth c Q 6 g A k n 9 [some (.ref a0), some (.int x1), some (.int x2), some (.int x3), none, none] [] w := by
  unfold vc_Mo_readClause_9 at vc
  refine hw_iload_n X dd_Mo_readClause_9 rfl ?_
  refine hw_if_eq X (tgt := 119) dd_Mo_readClause_10 rfl (fun hc => ?_) (fun hc => ?_)
  · replace vc := vc.1 hc
    exact rt dd_Mo_readClause_119 vc
  · replace vc := vc.2 hc
    refine hw_aload_n X (Or.inr ⟨_, rfl⟩) dd_Mo_readClause_13 rfl ?_
    obtain ⟨x_1, h9, vc⟩ := vc
    refine hw_get X (fe_Mo_52 X) h9 dd_Mo_readClause_14 ?_
    refine hw_if_ge X (tgt := 119) dd_Mo_readClause_17 rfl (fun hc => ?_) (fun hc => ?_)
    · replace vc := vc.1 hc
      exact rt dd_Mo_readClause_119 vc
    · replace vc := vc.2 hc
      refine hw_aload_n X (Or.inr ⟨_, rfl⟩) dd_Mo_readClause_20 rfl ?_
      obtain ⟨x_2, h9, vc⟩ := vc
      refine hw_get X (fe_Mo_49 X) h9 dd_Mo_readClause_21 ?_
      refine hw_istore X dd_Mo_readClause_24 (by decide) rfl ?_
      refine hw_aload_n X (Or.inr ⟨_, rfl⟩) dd_Mo_readClause_26 rfl ?_
      refine hw_iload_n X dd_Mo_readClause_27 rfl ?_
      refine hw_ineg X dd_Mo_readClause_28 ?_
      refine hw_iload_n X dd_Mo_readClause_29 rfl ?_
      obtain ⟨hob, rm9, po9, hM9, hf9, hc9, vc⟩ := vc
      refine hw_callVi X (As := [.int (-x2), .int x2]) (ye_Mo_80 X) hM9 rfl hf9 hc9 hob (Nat.le_of_ble_eq_true rfl) rfl dd_Mo_readClause_30 (fun x_6 w3 hp => ?_)
      replace vc := vc x_6 w3 hp
      refine hw_istore X dd_Mo_readClause_33 (by decide) rfl ?_
      refine hw_iload X dd_Mo_readClause_35 rfl ?_
      refine hw_if_eq X (tgt := 44) dd_Mo_readClause_37 rfl (fun hc => ?_) (fun hc => ?_)
      · replace vc := vc.1 hc
        refine hw_iconst X (v := 0) dd_Mo_readClause_44 (by decide) ?_
        refine hw_istore_n X dd_Mo_readClause_45 (by decide) rfl ?_
        refine hw_iload_n X dd_Mo_readClause_46 rfl ?_
        refine hw_if_eq X (tgt := 116) dd_Mo_readClause_47 rfl (fun _ => ?_) (fun hc => absurd hc (by decide))
        refine hw_goto X (tgt := 9) dd_Mo_readClause_116 rfl ?_
        exact hw_drop (lv9 := [some (.ref a0), some (.int x1), some (.int x2), some (.int (0 : Int32)), none, none]) (⟨rfl, ⟨rfl, ⟨rfl, ⟨rfl, ⟨trivial, ⟨trivial, trivial⟩⟩⟩⟩⟩⟩) (hK _ _ _ _ _ _ vc)
      · replace vc := vc.2 hc
        refine hw_iconst X (v := 1) dd_Mo_readClause_40 (by decide) ?_
        refine hw_goto X (tgt := 45) dd_Mo_readClause_41 rfl ?_
        refine hw_istore_n X dd_Mo_readClause_45 (by decide) rfl ?_
        refine hw_iload_n X dd_Mo_readClause_46 rfl ?_
        refine hw_if_eq X (tgt := 116) dd_Mo_readClause_47 rfl (fun hc => absurd hc (by decide)) (fun _ => ?_)
        refine hw_aload_n X (Or.inr ⟨_, rfl⟩) dd_Mo_readClause_50 rfl ?_
        refine hw_iload_n X dd_Mo_readClause_51 rfl ?_
        refine hw_iload X dd_Mo_readClause_52 rfl ?_
        obtain ⟨hob, rm9, po9, hM9, hf9, hc9, vc⟩ := vc
        refine hw_callVi X (As := [.int x1, .int x_6]) (ye_Mo_83 X) hM9 rfl hf9 hc9 hob (Nat.le_of_ble_eq_true rfl) rfl dd_Mo_readClause_54 (fun x_10 w7 hp => ?_)
        replace vc := vc x_10 w7 hp
        refine hw_if_ne X (tgt := 116) dd_Mo_readClause_57 rfl (fun hc => ?_) (fun hc => ?_)
        · replace vc := vc.1 hc
          refine hw_goto X (tgt := 9) dd_Mo_readClause_116 rfl ?_
          exact hw_drop (lv9 := [some (.ref a0), some (.int x1), some (.int x2), some (.int (1 : Int32)), none, none]) (⟨rfl, ⟨rfl, ⟨rfl, ⟨rfl, ⟨trivial, ⟨trivial, trivial⟩⟩⟩⟩⟩⟩) (hK _ _ _ _ _ _ vc)
        · replace vc := vc.2 hc
          refine hw_aload_n X (Or.inr ⟨_, rfl⟩) dd_Mo_readClause_60 rfl ?_
          obtain ⟨b_11, h9, vc⟩ := vc
          refine hw_get X (fe_Mo_19 X) h9 dd_Mo_readClause_61 ?_
          refine hw_iload_n X dd_Mo_readClause_64 rfl ?_
          obtain ⟨x_12, h9, vc⟩ := vc
          refine hw_iald X h9 dd_Mo_readClause_65 ?_
          refine hw_bipush X (v := 6) dd_Mo_readClause_66 (by decide) ?_
          refine hw_icmp_ne X (tgt := 84) dd_Mo_readClause_68 rfl (fun hc => ?_) (fun hc => ?_)
          · replace vc := vc.1 hc
            refine hw_aload_n X (Or.inr ⟨_, rfl⟩) dd_Mo_readClause_84 rfl ?_
            obtain ⟨b_13, h9, vc⟩ := vc
            refine hw_get X (fe_Mo_22 X) h9 dd_Mo_readClause_85 ?_
            refine hw_bipush X (v := 6) dd_Mo_readClause_88 (by decide) ?_
            refine hw_iload_n X dd_Mo_readClause_90 rfl ?_
            refine hw_imul X dd_Mo_readClause_91 ?_
            refine hw_aload_n X (Or.inr ⟨_, rfl⟩) dd_Mo_readClause_92 rfl ?_
            obtain ⟨b_14, h9, vc⟩ := vc
            refine hw_get X (fe_Mo_19 X) h9 dd_Mo_readClause_93 ?_
            refine hw_iload_n X dd_Mo_readClause_96 rfl ?_
            obtain ⟨x_15, h9, vc⟩ := vc
            refine hw_iald X h9 dd_Mo_readClause_97 ?_
            refine hw_iadd X dd_Mo_readClause_98 ?_
            refine hw_iload X dd_Mo_readClause_99 rfl ?_
            obtain ⟨w16, h9, vc⟩ := vc
            refine hw_iast X h9 dd_Mo_readClause_101 ?_
            refine hw_aload_n X (Or.inr ⟨_, rfl⟩) dd_Mo_readClause_102 rfl ?_
            obtain ⟨b_17, h9, vc⟩ := vc
            refine hw_get X (fe_Mo_19 X) h9 dd_Mo_readClause_103 ?_
            refine hw_iload_n X dd_Mo_readClause_106 rfl ?_
            refine hw_aload_n X (Or.inr ⟨_, rfl⟩) dd_Mo_readClause_107 rfl ?_
            obtain ⟨b_18, h9, vc⟩ := vc
            refine hw_get X (fe_Mo_19 X) h9 dd_Mo_readClause_108 ?_
            refine hw_iload_n X dd_Mo_readClause_111 rfl ?_
            obtain ⟨x_19, h9, vc⟩ := vc
            refine hw_iald X h9 dd_Mo_readClause_112 ?_
            refine hw_iconst X (v := 1) dd_Mo_readClause_113 (by decide) ?_
            refine hw_iadd X dd_Mo_readClause_114 ?_
            obtain ⟨w20, h9, vc⟩ := vc
            refine hw_iast X h9 dd_Mo_readClause_115 ?_
            refine hw_goto X (tgt := 9) dd_Mo_readClause_116 rfl ?_
            exact hw_drop (lv9 := [some (.ref a0), some (.int x1), some (.int x2), some (.int (1 : Int32)), none, none]) (⟨rfl, ⟨rfl, ⟨rfl, ⟨rfl, ⟨trivial, ⟨trivial, trivial⟩⟩⟩⟩⟩⟩) (hK _ _ _ _ _ _ vc)
          · replace vc := vc.2 hc
            refine hw_aload_n X (Or.inr ⟨_, rfl⟩) dd_Mo_readClause_71 rfl ?_
            refine hw_iload X dd_Mo_readClause_72 rfl ?_
            obtain ⟨w21, h9, vc⟩ := vc
            refine hw_put X (fp_Mo_49 X) rfl rfl h9 dd_Mo_readClause_74 ?_
            refine hw_aload_n X (Or.inr ⟨_, rfl⟩) dd_Mo_readClause_77 rfl ?_
            obtain ⟨hob, rm9, po9, hM9, hf9, hc9, vc⟩ := vc
            refine hw_callVv X (As := []) (ye_Mo_65 X) hM9 rfl hf9 hc9 hob (Nat.le_of_ble_eq_true rfl) rfl dd_Mo_readClause_78 (fun w22 hp => ?_)
            replace vc := vc w22 hp
            refine hw_goto X (tgt := 116) dd_Mo_readClause_81 rfl ?_
            refine hw_goto X (tgt := 9) dd_Mo_readClause_116 rfl ?_
            exact hw_drop (lv9 := [some (.ref a0), some (.int x1), some (.int x2), some (.int (1 : Int32)), none, none]) (⟨rfl, ⟨rfl, ⟨rfl, ⟨rfl, ⟨trivial, ⟨trivial, trivial⟩⟩⟩⟩⟩⟩) (hK _ _ _ _ _ _ vc)
end
section
variable {p : Program} {l : Launch} {e : Env} {R : Room} {s : State} {m : MethodId} {args : Array Value} {below : List Frame} {meth : Method} {c : Code} {Q : State → Prop} {g : hw_G} {A : Nat → Prop} {k n : Nat} {w : hw_H}
def vc_Mo_read_0 (l : Launch) (g : hw_G) (R : Room) (K : Nat → Nat → Nat → List (Option Value) → List Value → hw_H → Prop) (PR : Nat → Nat → Int32 → hw_H → Prop) (k n : Nat) (a0 : Nat) (w : hw_H) : Prop := hw_o w a0 "ProofCourtModel" ∧ hw_cv l g R k n ym_Mo_cut (mw_Mo_cut) 6 [.ref a0, .int (1 : Int32)] w (fun (k2 n3 : Nat) (w1 : hw_H) => hw_o w1 a0 "ProofCourtModel" ∧ hw_cv l g R k2 n3 ym_Mo_expect (mw_Mo_expect) 4 [.ref a0, .int (112 : Int32), .int (0 : Int32), .int (0 : Int32)] w1 (fun (k5 n6 : Nat) (w4 : hw_H) => hw_o w4 a0 "ProofCourtModel" ∧ hw_cv l g R k5 n6 ym_Mo_expect (mw_Mo_expect) 4 [.ref a0, .int (99 : Int32), .int (110 : Int32), .int (102 : Int32)] w4 (fun (k8 n9 : Nat) (w7 : hw_H) => hw_o w7 a0 "ProofCourtModel" ∧ hw_ci l g R k8 n9 ym_Mo_take (mw_Mo_take) 4 [.ref a0, .int (1 : Int32), .int (10 : Int32)] w7 (fun (k11 n12 : Nat) (x_13 : Int32) (w10 : hw_H) => hw_o w10 a0 "ProofCourtModel" ∧ hw_ci l g R k11 n12 ym_Mo_take (mw_Mo_take) 4 [.ref a0, .int (0 : Int32), .int (24 : Int32)] w10 (fun (k15 n16 : Nat) (x_17 : Int32) (w14 : hw_H) => K k15 n16 41 [some (.ref a0), some (.int x_13), some (.int x_17), some (.int (0 : Int32))] [] w14)))))
set_option maxHeartbeats 4000000 in
set_option maxRecDepth 100000 in
theorem sg_Mo_read_0 (X : hw_X p m c cb_Mo_read 4 s args (mw_Mo_read) "ProofCourtModel" g A) {K : Nat → Nat → Nat → List (Option Value) → List Value → hw_H → Prop} {PR : Nat → Nat → Int32 → hw_H → Prop} (hK : ∀ (k n pc : Nat) (lv : List (Option Value)) (st : List Value) (w : hw_H), K k n pc lv st w → hw_J p l e R s m args below meth c Q 4 g A k n pc lv st w) (rt : ∀ {k n pc : Nat} {lv : List (Option Value)} {x : Int32} {w : hw_H}, decode cb_Mo_read pc = .ok (.ireturn, 1) → PR k n x w → hw_J p l e R s m args below meth c Q 4 g A k n pc lv [.int x] w) {a0 : Nat} (vc : vc_Mo_read_0 l g R K PR k n a0 w) : hw_J p l e R s m args below meth c Q 4 g A k n 0 [some (.ref a0), none, none, none] [] w := by
  unfold vc_Mo_read_0 at vc
  refine hw_aload_n X (Or.inr ⟨_, rfl⟩) dd_Mo_read_0 rfl ?_
  refine hw_iconst X (v := 1) dd_Mo_read_1 (by decide) ?_
  obtain ⟨hob, rm9, po9, hM9, hf9, hc9, vc⟩ := vc
  refine hw_callVv X (As := [.int (1 : Int32)]) (ye_Mo_86 X) hM9 rfl hf9 hc9 hob (Nat.le_of_ble_eq_true rfl) rfl dd_Mo_read_2 (fun w1 hp => ?_)
  replace vc := vc w1 hp
  refine hw_aload_n X (Or.inr ⟨_, rfl⟩) dd_Mo_read_5 rfl ?_
  refine hw_bipush X (v := 112) dd_Mo_read_6 (by decide) ?_
  refine hw_iconst X (v := 0) dd_Mo_read_8 (by decide) ?_
  refine hw_iconst X (v := 0) dd_Mo_read_9 (by decide) ?_
  obtain ⟨hob, rm9, po9, hM9, hf9, hc9, vc⟩ := vc
  refine hw_callVv X (As := [.int (112 : Int32), .int (0 : Int32), .int (0 : Int32)]) (ye_Mo_90 X) hM9 rfl hf9 hc9 hob (Nat.le_of_ble_eq_true rfl) rfl dd_Mo_read_10 (fun w4 hp => ?_)
  replace vc := vc w4 hp
  refine hw_aload_n X (Or.inr ⟨_, rfl⟩) dd_Mo_read_13 rfl ?_
  refine hw_bipush X (v := 99) dd_Mo_read_14 (by decide) ?_
  refine hw_bipush X (v := 110) dd_Mo_read_16 (by decide) ?_
  refine hw_bipush X (v := 102) dd_Mo_read_18 (by decide) ?_
  obtain ⟨hob, rm9, po9, hM9, hf9, hc9, vc⟩ := vc
  refine hw_callVv X (As := [.int (99 : Int32), .int (110 : Int32), .int (102 : Int32)]) (ye_Mo_90 X) hM9 rfl hf9 hc9 hob (Nat.le_of_ble_eq_true rfl) rfl dd_Mo_read_20 (fun w7 hp => ?_)
  replace vc := vc w7 hp
  refine hw_aload_n X (Or.inr ⟨_, rfl⟩) dd_Mo_read_23 rfl ?_
  refine hw_iconst X (v := 1) dd_Mo_read_24 (by decide) ?_
  refine hw_bipush X (v := 10) dd_Mo_read_25 (by decide) ?_
  obtain ⟨hob, rm9, po9, hM9, hf9, hc9, vc⟩ := vc
  refine hw_callVi X (As := [.int (1 : Int32), .int (10 : Int32)]) (ye_Mo_80 X) hM9 rfl hf9 hc9 hob (Nat.le_of_ble_eq_true rfl) rfl dd_Mo_read_27 (fun x_13 w10 hp => ?_)
  replace vc := vc x_13 w10 hp
  refine hw_istore_n X dd_Mo_read_30 (by decide) rfl ?_
  refine hw_aload_n X (Or.inr ⟨_, rfl⟩) dd_Mo_read_31 rfl ?_
  refine hw_iconst X (v := 0) dd_Mo_read_32 (by decide) ?_
  refine hw_bipush X (v := 24) dd_Mo_read_33 (by decide) ?_
  obtain ⟨hob, rm9, po9, hM9, hf9, hc9, vc⟩ := vc
  refine hw_callVi X (As := [.int (0 : Int32), .int (24 : Int32)]) (ye_Mo_80 X) hM9 rfl hf9 hc9 hob (Nat.le_of_ble_eq_true rfl) rfl dd_Mo_read_35 (fun x_17 w14 hp => ?_)
  replace vc := vc x_17 w14 hp
  refine hw_istore_n X dd_Mo_read_38 (by decide) rfl ?_
  refine hw_iconst X (v := 0) dd_Mo_read_39 (by decide) ?_
  refine hw_istore_n X dd_Mo_read_40 (by decide) rfl ?_
  exact hK _ _ _ _ _ _ vc
def vc_Mo_read_41 (l : Launch) (g : hw_G) (R : Room) (K : Nat → Nat → Nat → List (Option Value) → List Value → hw_H → Prop) (PR : Nat → Nat → Int32 → hw_H → Prop) (k n : Nat) (a0 : Nat) (x1 : Int32) (x2 : Int32) (x3 : Int32) (w : hw_H) : Prop := ((x2 ≤ x3) → (K k n 68 [some (.ref a0), some (.int x1), some (.int x2), some (.int x3)] [] w)) ∧ ((¬ x2 ≤ x3) → (∃ x_1 : Int32, hw_g w a0 8 7 (.int x_1) ∧ (((0 ≤ x_1) → (K k n 68 [some (.ref a0), some (.int x1), some (.int x2), some (.int x3)] [] w)) ∧ ((¬ 0 ≤ x_1) → (hw_o w a0 "ProofCourtModel" ∧ hw_cv l g R k n ym_Mo_readClause (mw_Mo_readClause) 6 [.ref a0, .int ((65 : Int32) + x3), .int x1] w (fun (k3 n4 : Nat) (w2 : hw_H) => K k3 n4 41 [some (.ref a0), some (.int x1), some (.int x2), some (.int (x3 + 1))] [] w2))))))
set_option maxHeartbeats 4000000 in
set_option maxRecDepth 100000 in
theorem sg_Mo_read_41 (X : hw_X p m c cb_Mo_read 4 s args (mw_Mo_read) "ProofCourtModel" g A) {K : Nat → Nat → Nat → List (Option Value) → List Value → hw_H → Prop} {PR : Nat → Nat → Int32 → hw_H → Prop} (hK : ∀ (k n pc : Nat) (lv : List (Option Value)) (st : List Value) (w : hw_H), K k n pc lv st w → hw_J p l e R s m args below meth c Q 4 g A k n pc lv st w) (rt : ∀ {k n pc : Nat} {lv : List (Option Value)} {x : Int32} {w : hw_H}, decode cb_Mo_read pc = .ok (.ireturn, 1) → PR k n x w → hw_J p l e R s m args below meth c Q 4 g A k n pc lv [.int x] w) {a0 : Nat} {x1 : Int32} {x2 : Int32} {x3 : Int32} (vc : vc_Mo_read_41 l g R K PR k n a0 x1 x2 x3 w) : hw_J p l e R s m args below meth c Q 4 g A k n 41 [some (.ref a0), some (.int x1), some (.int x2), some (.int x3)] [] w := by
  unfold vc_Mo_read_41 at vc
  refine hw_iload_n X dd_Mo_read_41 rfl ?_
  refine hw_iload_n X dd_Mo_read_42 rfl ?_
  refine hw_icmp_ge X (tgt := 68) dd_Mo_read_43 rfl (fun hc => ?_) (fun hc => ?_)
  · replace vc := vc.1 hc
    exact hK _ _ _ _ _ _ vc
  · replace vc := vc.2 hc
    refine hw_aload_n X (Or.inr ⟨_, rfl⟩) dd_Mo_read_46 rfl ?_
    obtain ⟨x_1, h9, vc⟩ := vc
    refine hw_get X (fe_Mo_52 X) h9 dd_Mo_read_47 ?_
    refine hw_if_ge X (tgt := 68) dd_Mo_read_50 rfl (fun hc => ?_) (fun hc => ?_)
    · replace vc := vc.1 hc
      exact hK _ _ _ _ _ _ vc
    · replace vc := vc.2 hc
      refine hw_aload_n X (Or.inr ⟨_, rfl⟩) dd_Mo_read_53 rfl ?_
      refine hw_bipush X (v := 65) dd_Mo_read_54 (by decide) ?_
      refine hw_iload_n X dd_Mo_read_56 rfl ?_
      refine hw_iadd X dd_Mo_read_57 ?_
      refine hw_iload_n X dd_Mo_read_58 rfl ?_
      obtain ⟨hob, rm9, po9, hM9, hf9, hc9, vc⟩ := vc
      refine hw_callVv X (As := [.int ((65 : Int32) + x3), .int x1]) (ye_Mo_94 X) hM9 rfl hf9 hc9 hob (Nat.le_of_ble_eq_true rfl) rfl dd_Mo_read_59 (fun w2 hp => ?_)
      replace vc := vc w2 hp
      refine hw_iinc X (v := (x3 + 1)) dd_Mo_read_62 rfl rfl (by decide) rfl ?_
      refine hw_goto X (tgt := 41) dd_Mo_read_65 rfl ?_
      exact hK _ _ _ _ _ _ vc
def vc_Mo_read_68 (l : Launch) (g : hw_G) (R : Room) (K : Nat → Nat → Nat → List (Option Value) → List Value → hw_H → Prop) (PR : Nat → Nat → Int32 → hw_H → Prop) (k n : Nat) (a0 : Nat) (x1 : Int32) (x2 : Int32) (x3 : Int32) (w : hw_H) : Prop := ∃ x_1 : Int32, hw_g w a0 8 7 (.int x_1) ∧ (((0 ≤ x_1) → (∃ x_2 : Int32, hw_g w a0 8 7 (.int x_2) ∧ (((x_2 < 0) → (∃ w3 : hw_H, hw_p w a0 8 8 (.int x1) w3 ∧ (∃ w4 : hw_H, hw_p w3 a0 8 12 (.int x2) w4 ∧ (∃ w5 : hw_H, hw_p w4 a0 8 13 (.int x2) w5 ∧ (∃ w6 : hw_H, hw_p w5 a0 8 14 (.int x2) w6 ∧ (∃ w7 : hw_H, hw_p w6 a0 8 15 (.int (0 : Int32)) w7 ∧ hw_b (0 : Int32) ∧ (K k n 131 [some (.ref a0), some (.int x1), some (.int x2), some (.int (0 : Int32))] [] w7))))))) ∧ ((¬ x_2 < 0) → (∃ x_8 : Int32, hw_g w a0 8 7 (.int x_8) ∧ (PR k n ((-1 : Int32) - x_8) w)))))) ∧ ((¬ 0 ≤ x_1) → (∃ x_9 : Int32, hw_g w a0 8 5 (.int x_9) ∧ (∃ x_10 : Int32, hw_g w a0 8 2 (.int x_10) ∧ (((x_10 ≤ x_9) → (∃ x_11 : Int32, hw_g w a0 8 7 (.int x_11) ∧ (((x_11 < 0) → (∃ w12 : hw_H, hw_p w a0 8 8 (.int x1) w12 ∧ (∃ w13 : hw_H, hw_p w12 a0 8 12 (.int x2) w13 ∧ (∃ w14 : hw_H, hw_p w13 a0 8 13 (.int x2) w14 ∧ (∃ w15 : hw_H, hw_p w14 a0 8 14 (.int x2) w15 ∧ (∃ w16 : hw_H, hw_p w15 a0 8 15 (.int (0 : Int32)) w16 ∧ hw_b (0 : Int32) ∧ (K k n 131 [some (.ref a0), some (.int x1), some (.int x2), some (.int (0 : Int32))] [] w16))))))) ∧ ((¬ x_11 < 0) → (∃ x_17 : Int32, hw_g w a0 8 7 (.int x_17) ∧ (PR k n ((-1 : Int32) - x_17) w)))))) ∧ ((¬ x_10 ≤ x_9) → (hw_o w a0 "ProofCourtModel" ∧ hw_cv l g R k n ym_Mo_fail (mw_Mo_fail) 1 [.ref a0] w (fun (k19 n20 : Nat) (w18 : hw_H) => ∃ x_21 : Int32, hw_g w18 a0 8 7 (.int x_21) ∧ (((x_21 < 0) → (∃ w22 : hw_H, hw_p w18 a0 8 8 (.int x1) w22 ∧ (∃ w23 : hw_H, hw_p w22 a0 8 12 (.int x2) w23 ∧ (∃ w24 : hw_H, hw_p w23 a0 8 13 (.int x2) w24 ∧ (∃ w25 : hw_H, hw_p w24 a0 8 14 (.int x2) w25 ∧ (∃ w26 : hw_H, hw_p w25 a0 8 15 (.int (0 : Int32)) w26 ∧ hw_b (0 : Int32) ∧ (K k19 n20 131 [some (.ref a0), some (.int x1), some (.int x2), some (.int (0 : Int32))] [] w26))))))) ∧ ((¬ x_21 < 0) → (∃ x_27 : Int32, hw_g w18 a0 8 7 (.int x_27) ∧ (PR k19 n20 ((-1 : Int32) - x_27) w18))))))))))))
set_option maxHeartbeats 4000000 in
set_option maxRecDepth 100000 in
theorem sg_Mo_read_68 (X : hw_X p m c cb_Mo_read 4 s args (mw_Mo_read) "ProofCourtModel" g A) {K : Nat → Nat → Nat → List (Option Value) → List Value → hw_H → Prop} {PR : Nat → Nat → Int32 → hw_H → Prop} (hK : ∀ (k n pc : Nat) (lv : List (Option Value)) (st : List Value) (w : hw_H), K k n pc lv st w → hw_J p l e R s m args below meth c Q 4 g A k n pc lv st w) (rt : ∀ {k n pc : Nat} {lv : List (Option Value)} {x : Int32} {w : hw_H}, decode cb_Mo_read pc = .ok (.ireturn, 1) → PR k n x w → hw_J p l e R s m args below meth c Q 4 g A k n pc lv [.int x] w) {a0 : Nat} {x1 : Int32} {x2 : Int32} {x3 : Int32} (vc : vc_Mo_read_68 l g R K PR k n a0 x1 x2 x3 w) : hw_J p l e R s m args below meth c Q 4 g A k n 68 [some (.ref a0), some (.int x1), some (.int x2), some (.int x3)] [] w := by
  unfold vc_Mo_read_68 at vc
  refine hw_aload_n X (Or.inr ⟨_, rfl⟩) dd_Mo_read_68 rfl ?_
  obtain ⟨x_1, h9, vc⟩ := vc
  refine hw_get X (fe_Mo_52 X) h9 dd_Mo_read_69 ?_
  refine hw_if_ge X (tgt := 90) dd_Mo_read_72 rfl (fun hc => ?_) (fun hc => ?_)
  · replace vc := vc.1 hc
    refine hw_aload_n X (Or.inr ⟨_, rfl⟩) dd_Mo_read_90 rfl ?_
    obtain ⟨x_2, h9, vc⟩ := vc
    refine hw_get X (fe_Mo_52 X) h9 dd_Mo_read_91 ?_
    refine hw_if_lt X (tgt := 104) dd_Mo_read_94 rfl (fun hc => ?_) (fun hc => ?_)
    · replace vc := vc.1 hc
      refine hw_aload_n X (Or.inr ⟨_, rfl⟩) dd_Mo_read_104 rfl ?_
      refine hw_iload_n X dd_Mo_read_105 rfl ?_
      obtain ⟨w3, h9, vc⟩ := vc
      refine hw_put X (fp_Mo_98 X) rfl rfl h9 dd_Mo_read_106 ?_
      refine hw_aload_n X (Or.inr ⟨_, rfl⟩) dd_Mo_read_109 rfl ?_
      refine hw_iload_n X dd_Mo_read_110 rfl ?_
      obtain ⟨w4, h9, vc⟩ := vc
      refine hw_put X (fp_Mo_101 X) rfl rfl h9 dd_Mo_read_111 ?_
      refine hw_aload_n X (Or.inr ⟨_, rfl⟩) dd_Mo_read_114 rfl ?_
      refine hw_iload_n X dd_Mo_read_115 rfl ?_
      obtain ⟨w5, h9, vc⟩ := vc
      refine hw_put X (fp_Mo_104 X) rfl rfl h9 dd_Mo_read_116 ?_
      refine hw_aload_n X (Or.inr ⟨_, rfl⟩) dd_Mo_read_119 rfl ?_
      refine hw_iload_n X dd_Mo_read_120 rfl ?_
      obtain ⟨w6, h9, vc⟩ := vc
      refine hw_put X (fp_Mo_107 X) rfl rfl h9 dd_Mo_read_121 ?_
      refine hw_aload_n X (Or.inr ⟨_, rfl⟩) dd_Mo_read_124 rfl ?_
      refine hw_iconst X (v := 0) dd_Mo_read_125 (by decide) ?_
      obtain ⟨w7, h9, h8, vc⟩ := vc
      refine hw_put X (fp_Mo_110 X) (hw_b_nar h8) (hw_b_fit h8) h9 dd_Mo_read_126 ?_
      refine hw_iconst X (v := 0) dd_Mo_read_129 (by decide) ?_
      refine hw_istore_n X dd_Mo_read_130 (by decide) rfl ?_
      exact hK _ _ _ _ _ _ vc
    · replace vc := vc.2 hc
      refine hw_iconst X (v := -1) dd_Mo_read_97 (by decide) ?_
      refine hw_aload_n X (Or.inr ⟨_, rfl⟩) dd_Mo_read_98 rfl ?_
      obtain ⟨x_8, h9, vc⟩ := vc
      refine hw_get X (fe_Mo_52 X) h9 dd_Mo_read_99 ?_
      refine hw_isub X dd_Mo_read_102 ?_
      exact rt dd_Mo_read_103 vc
  · replace vc := vc.2 hc
    refine hw_aload_n X (Or.inr ⟨_, rfl⟩) dd_Mo_read_75 rfl ?_
    obtain ⟨x_9, h9, vc⟩ := vc
    refine hw_get X (fe_Mo_49 X) h9 dd_Mo_read_76 ?_
    refine hw_aload_n X (Or.inr ⟨_, rfl⟩) dd_Mo_read_79 rfl ?_
    obtain ⟨x_10, h9, vc⟩ := vc
    refine hw_get X (fe_Mo_46 X) h9 dd_Mo_read_80 ?_
    refine hw_icmp_ge X (tgt := 90) dd_Mo_read_83 rfl (fun hc => ?_) (fun hc => ?_)
    · replace vc := vc.1 hc
      refine hw_aload_n X (Or.inr ⟨_, rfl⟩) dd_Mo_read_90 rfl ?_
      obtain ⟨x_11, h9, vc⟩ := vc
      refine hw_get X (fe_Mo_52 X) h9 dd_Mo_read_91 ?_
      refine hw_if_lt X (tgt := 104) dd_Mo_read_94 rfl (fun hc => ?_) (fun hc => ?_)
      · replace vc := vc.1 hc
        refine hw_aload_n X (Or.inr ⟨_, rfl⟩) dd_Mo_read_104 rfl ?_
        refine hw_iload_n X dd_Mo_read_105 rfl ?_
        obtain ⟨w12, h9, vc⟩ := vc
        refine hw_put X (fp_Mo_98 X) rfl rfl h9 dd_Mo_read_106 ?_
        refine hw_aload_n X (Or.inr ⟨_, rfl⟩) dd_Mo_read_109 rfl ?_
        refine hw_iload_n X dd_Mo_read_110 rfl ?_
        obtain ⟨w13, h9, vc⟩ := vc
        refine hw_put X (fp_Mo_101 X) rfl rfl h9 dd_Mo_read_111 ?_
        refine hw_aload_n X (Or.inr ⟨_, rfl⟩) dd_Mo_read_114 rfl ?_
        refine hw_iload_n X dd_Mo_read_115 rfl ?_
        obtain ⟨w14, h9, vc⟩ := vc
        refine hw_put X (fp_Mo_104 X) rfl rfl h9 dd_Mo_read_116 ?_
        refine hw_aload_n X (Or.inr ⟨_, rfl⟩) dd_Mo_read_119 rfl ?_
        refine hw_iload_n X dd_Mo_read_120 rfl ?_
        obtain ⟨w15, h9, vc⟩ := vc
        refine hw_put X (fp_Mo_107 X) rfl rfl h9 dd_Mo_read_121 ?_
        refine hw_aload_n X (Or.inr ⟨_, rfl⟩) dd_Mo_read_124 rfl ?_
        refine hw_iconst X (v := 0) dd_Mo_read_125 (by decide) ?_
        obtain ⟨w16, h9, h8, vc⟩ := vc
        refine hw_put X (fp_Mo_110 X) (hw_b_nar h8) (hw_b_fit h8) h9 dd_Mo_read_126 ?_
        refine hw_iconst X (v := 0) dd_Mo_read_129 (by decide) ?_
        refine hw_istore_n X dd_Mo_read_130 (by decide) rfl ?_
        exact hK _ _ _ _ _ _ vc
      · replace vc := vc.2 hc
        refine hw_iconst X (v := -1) dd_Mo_read_97 (by decide) ?_
        refine hw_aload_n X (Or.inr ⟨_, rfl⟩) dd_Mo_read_98 rfl ?_
        obtain ⟨x_17, h9, vc⟩ := vc
        refine hw_get X (fe_Mo_52 X) h9 dd_Mo_read_99 ?_
        refine hw_isub X dd_Mo_read_102 ?_
        exact rt dd_Mo_read_103 vc
    · replace vc := vc.2 hc
      refine hw_aload_n X (Or.inr ⟨_, rfl⟩) dd_Mo_read_86 rfl ?_
      obtain ⟨hob, rm9, po9, hM9, hf9, hc9, vc⟩ := vc
      refine hw_callVv X (As := []) (ye_Mo_65 X) hM9 rfl hf9 hc9 hob (Nat.le_of_ble_eq_true rfl) rfl dd_Mo_read_87 (fun w18 hp => ?_)
      replace vc := vc w18 hp
      refine hw_aload_n X (Or.inr ⟨_, rfl⟩) dd_Mo_read_90 rfl ?_
      obtain ⟨x_21, h9, vc⟩ := vc
      refine hw_get X (fe_Mo_52 X) h9 dd_Mo_read_91 ?_
      refine hw_if_lt X (tgt := 104) dd_Mo_read_94 rfl (fun hc => ?_) (fun hc => ?_)
      · replace vc := vc.1 hc
        refine hw_aload_n X (Or.inr ⟨_, rfl⟩) dd_Mo_read_104 rfl ?_
        refine hw_iload_n X dd_Mo_read_105 rfl ?_
        obtain ⟨w22, h9, vc⟩ := vc
        refine hw_put X (fp_Mo_98 X) rfl rfl h9 dd_Mo_read_106 ?_
        refine hw_aload_n X (Or.inr ⟨_, rfl⟩) dd_Mo_read_109 rfl ?_
        refine hw_iload_n X dd_Mo_read_110 rfl ?_
        obtain ⟨w23, h9, vc⟩ := vc
        refine hw_put X (fp_Mo_101 X) rfl rfl h9 dd_Mo_read_111 ?_
        refine hw_aload_n X (Or.inr ⟨_, rfl⟩) dd_Mo_read_114 rfl ?_
        refine hw_iload_n X dd_Mo_read_115 rfl ?_
        obtain ⟨w24, h9, vc⟩ := vc
        refine hw_put X (fp_Mo_104 X) rfl rfl h9 dd_Mo_read_116 ?_
        refine hw_aload_n X (Or.inr ⟨_, rfl⟩) dd_Mo_read_119 rfl ?_
        refine hw_iload_n X dd_Mo_read_120 rfl ?_
        obtain ⟨w25, h9, vc⟩ := vc
        refine hw_put X (fp_Mo_107 X) rfl rfl h9 dd_Mo_read_121 ?_
        refine hw_aload_n X (Or.inr ⟨_, rfl⟩) dd_Mo_read_124 rfl ?_
        refine hw_iconst X (v := 0) dd_Mo_read_125 (by decide) ?_
        obtain ⟨w26, h9, h8, vc⟩ := vc
        refine hw_put X (fp_Mo_110 X) (hw_b_nar h8) (hw_b_fit h8) h9 dd_Mo_read_126 ?_
        refine hw_iconst X (v := 0) dd_Mo_read_129 (by decide) ?_
        refine hw_istore_n X dd_Mo_read_130 (by decide) rfl ?_
        exact hK _ _ _ _ _ _ vc
      · replace vc := vc.2 hc
        refine hw_iconst X (v := -1) dd_Mo_read_97 (by decide) ?_
        refine hw_aload_n X (Or.inr ⟨_, rfl⟩) dd_Mo_read_98 rfl ?_
        obtain ⟨x_27, h9, vc⟩ := vc
        refine hw_get X (fe_Mo_52 X) h9 dd_Mo_read_99 ?_
        refine hw_isub X dd_Mo_read_102 ?_
        exact rt dd_Mo_read_103 vc
def vc_Mo_read_131 (l : Launch) (g : hw_G) (R : Room) (K : Nat → Nat → Nat → List (Option Value) → List Value → hw_H → Prop) (PR : Nat → Nat → Int32 → hw_H → Prop) (k n : Nat) (a0 : Nat) (x1 : Int32) (x2 : Int32) (x3 : Int32) (w : hw_H) : Prop := ((x2 ≤ x3) → (PR k n x2 w)) ∧ ((¬ x2 ≤ x3) → (hw_o w a0 "ProofCourtModel" ∧ hw_cv l g R k n ym_Mo_copy (mw_Mo_copy) 4 [.ref a0, .int ((65 : Int32) + x3), .int x3] w (fun (k2 n3 : Nat) (w1 : hw_H) => hw_o w1 a0 "ProofCourtModel" ∧ hw_cv l g R k2 n3 ym_Mo_copy (mw_Mo_copy) 4 [.ref a0, .int ((65 : Int32) + x3), .int ((24 : Int32) + x3)] w1 (fun (k5 n6 : Nat) (w4 : hw_H) => ∃ b_7 : Nat, hw_g w4 a0 8 11 (.ref b_7) ∧ (∃ w8 : hw_H, hw_as g 0 w4 b_7 x3 (x3 + (1 : Int32)) w8 ∧ (K k5 n6 131 [some (.ref a0), some (.int x1), some (.int x2), some (.int (x3 + 1))] [] w8))))))
set_option maxHeartbeats 4000000 in
set_option maxRecDepth 100000 in
theorem sg_Mo_read_131 (X : hw_X p m c cb_Mo_read 4 s args (mw_Mo_read) "ProofCourtModel" g A) {K : Nat → Nat → Nat → List (Option Value) → List Value → hw_H → Prop} {PR : Nat → Nat → Int32 → hw_H → Prop} (hK : ∀ (k n pc : Nat) (lv : List (Option Value)) (st : List Value) (w : hw_H), K k n pc lv st w → hw_J p l e R s m args below meth c Q 4 g A k n pc lv st w) (rt : ∀ {k n pc : Nat} {lv : List (Option Value)} {x : Int32} {w : hw_H}, decode cb_Mo_read pc = .ok (.ireturn, 1) → PR k n x w → hw_J p l e R s m args below meth c Q 4 g A k n pc lv [.int x] w) {a0 : Nat} {x1 : Int32} {x2 : Int32} {x3 : Int32} (vc : vc_Mo_read_131 l g R K PR k n a0 x1 x2 x3 w) : hw_J p l e R s m args below meth c Q 4 g A k n 131 [some (.ref a0), some (.int x1), some (.int x2), some (.int x3)] [] w := by
  unfold vc_Mo_read_131 at vc
  refine hw_iload_n X dd_Mo_read_131 rfl ?_
  refine hw_iload_n X dd_Mo_read_132 rfl ?_
  refine hw_icmp_ge X (tgt := 172) dd_Mo_read_133 rfl (fun hc => ?_) (fun hc => ?_)
  · replace vc := vc.1 hc
    refine hw_iload_n X dd_Mo_read_172 rfl ?_
    exact rt dd_Mo_read_173 vc
  · replace vc := vc.2 hc
    refine hw_aload_n X (Or.inr ⟨_, rfl⟩) dd_Mo_read_136 rfl ?_
    refine hw_bipush X (v := 65) dd_Mo_read_137 (by decide) ?_
    refine hw_iload_n X dd_Mo_read_139 rfl ?_
    refine hw_iadd X dd_Mo_read_140 ?_
    refine hw_iload_n X dd_Mo_read_141 rfl ?_
    obtain ⟨hob, rm9, po9, hM9, hf9, hc9, vc⟩ := vc
    refine hw_callVv X (As := [.int ((65 : Int32) + x3), .int x3]) (ye_Mo_114 X) hM9 rfl hf9 hc9 hob (Nat.le_of_ble_eq_true rfl) rfl dd_Mo_read_142 (fun w1 hp => ?_)
    replace vc := vc w1 hp
    refine hw_aload_n X (Or.inr ⟨_, rfl⟩) dd_Mo_read_145 rfl ?_
    refine hw_bipush X (v := 65) dd_Mo_read_146 (by decide) ?_
    refine hw_iload_n X dd_Mo_read_148 rfl ?_
    refine hw_iadd X dd_Mo_read_149 ?_
    refine hw_bipush X (v := 24) dd_Mo_read_150 (by decide) ?_
    refine hw_iload_n X dd_Mo_read_152 rfl ?_
    refine hw_iadd X dd_Mo_read_153 ?_
    obtain ⟨hob, rm9, po9, hM9, hf9, hc9, vc⟩ := vc
    refine hw_callVv X (As := [.int ((65 : Int32) + x3), .int ((24 : Int32) + x3)]) (ye_Mo_114 X) hM9 rfl hf9 hc9 hob (Nat.le_of_ble_eq_true rfl) rfl dd_Mo_read_154 (fun w4 hp => ?_)
    replace vc := vc w4 hp
    refine hw_aload_n X (Or.inr ⟨_, rfl⟩) dd_Mo_read_157 rfl ?_
    obtain ⟨b_7, h9, vc⟩ := vc
    refine hw_get X (fe_Mo_25 X) h9 dd_Mo_read_158 ?_
    refine hw_iload_n X dd_Mo_read_161 rfl ?_
    refine hw_iload_n X dd_Mo_read_162 rfl ?_
    refine hw_iconst X (v := 1) dd_Mo_read_163 (by decide) ?_
    refine hw_iadd X dd_Mo_read_164 ?_
    obtain ⟨w8, h9, vc⟩ := vc
    refine hw_iast X h9 dd_Mo_read_165 ?_
    refine hw_iinc X (v := (x3 + 1)) dd_Mo_read_166 rfl rfl (by decide) rfl ?_
    refine hw_goto X (tgt := 131) dd_Mo_read_169 rfl ?_
    exact hK _ _ _ _ _ _ vc
end
section
variable {p : Program} {l : Launch} {e : Env} {R : Room} {s : State} {m : MethodId} {args : Array Value} {below : List Frame} {meth : Method} {c : Code} {Q : State → Prop} {g : hw_G} {A : Nat → Prop} {k n : Nat} {w : hw_H}
def vc_Mo_variables_0 (l : Launch) (g : hw_G) (R : Room) (K : Nat → Nat → Nat → List (Option Value) → List Value → hw_H → Prop) (PR : Nat → Nat → Int32 → hw_H → Prop) (k n : Nat) (a0 : Nat) (w : hw_H) : Prop := ∃ x_1 : Int32, hw_g w a0 8 8 (.int x_1) ∧ (PR k n x_1 w)
set_option maxHeartbeats 4000000 in
set_option maxRecDepth 100000 in
theorem sg_Mo_variables_0 (X : hw_X p m c cb_Mo_variables 1 s args (mw_Mo_variables) "ProofCourtModel" g A) {K : Nat → Nat → Nat → List (Option Value) → List Value → hw_H → Prop} {PR : Nat → Nat → Int32 → hw_H → Prop} (hK : ∀ (k n pc : Nat) (lv : List (Option Value)) (st : List Value) (w : hw_H), K k n pc lv st w → hw_J p l e R s m args below meth c Q 1 g A k n pc lv st w) (rt : ∀ {k n pc : Nat} {lv : List (Option Value)} {x : Int32} {w : hw_H}, decode cb_Mo_variables pc = .ok (.ireturn, 1) → PR k n x w → hw_J p l e R s m args below meth c Q 1 g A k n pc lv [.int x] w) {a0 : Nat} (vc : vc_Mo_variables_0 l g R K PR k n a0 w) : hw_J p l e R s m args below meth c Q 1 g A k n 0 [some (.ref a0)] [] w := by
  unfold vc_Mo_variables_0 at vc
  refine hw_aload_n X (Or.inr ⟨_, rfl⟩) dd_Mo_variables_0 rfl ?_
  obtain ⟨x_1, h9, vc⟩ := vc
  refine hw_get X (fe_Mo_98 X) h9 dd_Mo_variables_1 ?_
  exact rt dd_Mo_variables_4 vc
end
section
variable {p : Program} {l : Launch} {e : Env} {R : Room} {s : State} {m : MethodId} {args : Array Value} {below : List Frame} {meth : Method} {c : Code} {Q : State → Prop} {g : hw_G} {A : Nat → Prop} {k n : Nat} {w : hw_H}
def vc_Mo_live_0 (l : Launch) (g : hw_G) (R : Room) (K : Nat → Nat → Nat → List (Option Value) → List Value → hw_H → Prop) (PR : Nat → Nat → Int32 → hw_H → Prop) (k n : Nat) (a0 : Nat) (w : hw_H) : Prop := ∃ x_1 : Int32, hw_g w a0 8 13 (.int x_1) ∧ (PR k n x_1 w)
set_option maxHeartbeats 4000000 in
set_option maxRecDepth 100000 in
theorem sg_Mo_live_0 (X : hw_X p m c cb_Mo_live 1 s args (mw_Mo_live) "ProofCourtModel" g A) {K : Nat → Nat → Nat → List (Option Value) → List Value → hw_H → Prop} {PR : Nat → Nat → Int32 → hw_H → Prop} (hK : ∀ (k n pc : Nat) (lv : List (Option Value)) (st : List Value) (w : hw_H), K k n pc lv st w → hw_J p l e R s m args below meth c Q 1 g A k n pc lv st w) (rt : ∀ {k n pc : Nat} {lv : List (Option Value)} {x : Int32} {w : hw_H}, decode cb_Mo_live pc = .ok (.ireturn, 1) → PR k n x w → hw_J p l e R s m args below meth c Q 1 g A k n pc lv [.int x] w) {a0 : Nat} (vc : vc_Mo_live_0 l g R K PR k n a0 w) : hw_J p l e R s m args below meth c Q 1 g A k n 0 [some (.ref a0)] [] w := by
  unfold vc_Mo_live_0 at vc
  refine hw_aload_n X (Or.inr ⟨_, rfl⟩) dd_Mo_live_0 rfl ?_
  obtain ⟨x_1, h9, vc⟩ := vc
  refine hw_get X (fe_Mo_104 X) h9 dd_Mo_live_1 ?_
  exact rt dd_Mo_live_4 vc
end
section
variable {p : Program} {l : Launch} {e : Env} {R : Room} {s : State} {m : MethodId} {args : Array Value} {below : List Frame} {meth : Method} {c : Code} {Q : State → Prop} {g : hw_G} {A : Nat → Prop} {k n : Nat} {w : hw_H}
def vc_Mo_find_0 (l : Launch) (g : hw_G) (R : Room) (K : Nat → Nat → Nat → List (Option Value) → List Value → hw_H → Prop) (PR : Nat → Nat → Int32 → hw_H → Prop) (k n : Nat) (a0 : Nat) (x1 : Int32) (w : hw_H) : Prop := K k n 4 [some (.ref a0), some (.int x1), some (.int (-1 : Int32)), some (.int (0 : Int32))] [] w
set_option maxHeartbeats 4000000 in
set_option maxRecDepth 100000 in
theorem sg_Mo_find_0 (X : hw_X p m c cb_Mo_find 4 s args (mw_Mo_find) "ProofCourtModel" g A) {K : Nat → Nat → Nat → List (Option Value) → List Value → hw_H → Prop} {PR : Nat → Nat → Int32 → hw_H → Prop} (hK : ∀ (k n pc : Nat) (lv : List (Option Value)) (st : List Value) (w : hw_H), K k n pc lv st w → hw_J p l e R s m args below meth c Q 4 g A k n pc lv st w) (rt : ∀ {k n pc : Nat} {lv : List (Option Value)} {x : Int32} {w : hw_H}, decode cb_Mo_find pc = .ok (.ireturn, 1) → PR k n x w → hw_J p l e R s m args below meth c Q 4 g A k n pc lv [.int x] w) {a0 : Nat} {x1 : Int32} (vc : vc_Mo_find_0 l g R K PR k n a0 x1 w) : hw_J p l e R s m args below meth c Q 4 g A k n 0 [some (.ref a0), some (.int x1), none, none] [] w := by
  unfold vc_Mo_find_0 at vc
  refine hw_iconst X (v := -1) dd_Mo_find_0 (by decide) ?_
  refine hw_istore_n X dd_Mo_find_1 (by decide) rfl ?_
  refine hw_iconst X (v := 0) dd_Mo_find_2 (by decide) ?_
  refine hw_istore_n X dd_Mo_find_3 (by decide) rfl ?_
  exact hK _ _ _ _ _ _ vc
def vc_Mo_find_4 (l : Launch) (g : hw_G) (R : Room) (K : Nat → Nat → Nat → List (Option Value) → List Value → hw_H → Prop) (PR : Nat → Nat → Int32 → hw_H → Prop) (k n : Nat) (a0 : Nat) (x1 : Int32) (x2 : Int32) (x3 : Int32) (w : hw_H) : Prop := ∃ x_1 : Int32, hw_g w a0 8 13 (.int x_1) ∧ (((x_1 ≤ x3) → (PR k n x2 w)) ∧ ((¬ x_1 ≤ x3) → (∃ b_2 : Nat, hw_g w a0 8 11 (.ref b_2) ∧ (∃ x_3 : Int32, hw_ai g 0 w b_2 x3 x_3 ∧ (((¬ x_3 = x1) → (K k n 4 [some (.ref a0), some (.int x1), some (.int x2), some (.int (x3 + 1))] [] w)) ∧ ((x_3 = x1) → (K k n 4 [some (.ref a0), some (.int x1), some (.int x3), some (.int (x3 + 1))] [] w)))))))
set_option maxHeartbeats 4000000 in
set_option maxRecDepth 100000 in
theorem sg_Mo_find_4 (X : hw_X p m c cb_Mo_find 4 s args (mw_Mo_find) "ProofCourtModel" g A) {K : Nat → Nat → Nat → List (Option Value) → List Value → hw_H → Prop} {PR : Nat → Nat → Int32 → hw_H → Prop} (hK : ∀ (k n pc : Nat) (lv : List (Option Value)) (st : List Value) (w : hw_H), K k n pc lv st w → hw_J p l e R s m args below meth c Q 4 g A k n pc lv st w) (rt : ∀ {k n pc : Nat} {lv : List (Option Value)} {x : Int32} {w : hw_H}, decode cb_Mo_find pc = .ok (.ireturn, 1) → PR k n x w → hw_J p l e R s m args below meth c Q 4 g A k n pc lv [.int x] w) {a0 : Nat} {x1 : Int32} {x2 : Int32} {x3 : Int32} (vc : vc_Mo_find_4 l g R K PR k n a0 x1 x2 x3 w) : hw_J p l e R s m args below meth c Q 4 g A k n 4 [some (.ref a0), some (.int x1), some (.int x2), some (.int x3)] [] w := by
  unfold vc_Mo_find_4 at vc
  refine hw_iload_n X dd_Mo_find_4 rfl ?_
  refine hw_aload_n X (Or.inr ⟨_, rfl⟩) dd_Mo_find_5 rfl ?_
  obtain ⟨x_1, h9, vc⟩ := vc
  refine hw_get X (fe_Mo_104 X) h9 dd_Mo_find_6 ?_
  refine hw_icmp_ge X (tgt := 34) dd_Mo_find_9 rfl (fun hc => ?_) (fun hc => ?_)
  · replace vc := vc.1 hc
    refine hw_iload_n X dd_Mo_find_34 rfl ?_
    exact rt dd_Mo_find_35 vc
  · replace vc := vc.2 hc
    refine hw_aload_n X (Or.inr ⟨_, rfl⟩) dd_Mo_find_12 rfl ?_
    obtain ⟨b_2, h9, vc⟩ := vc
    refine hw_get X (fe_Mo_25 X) h9 dd_Mo_find_13 ?_
    refine hw_iload_n X dd_Mo_find_16 rfl ?_
    obtain ⟨x_3, h9, vc⟩ := vc
    refine hw_iald X h9 dd_Mo_find_17 ?_
    refine hw_iload_n X dd_Mo_find_18 rfl ?_
    refine hw_icmp_ne X (tgt := 26) dd_Mo_find_19 rfl (fun hc => ?_) (fun hc => ?_)
    · replace vc := vc.1 hc
      refine hw_iload_n X dd_Mo_find_26 rfl ?_
      refine hw_istore_n X dd_Mo_find_27 (by decide) rfl ?_
      refine hw_iinc X (v := (x3 + 1)) dd_Mo_find_28 rfl rfl (by decide) rfl ?_
      refine hw_goto X (tgt := 4) dd_Mo_find_31 rfl ?_
      exact hK _ _ _ _ _ _ vc
    · replace vc := vc.2 hc
      refine hw_iload_n X dd_Mo_find_22 rfl ?_
      refine hw_goto X (tgt := 27) dd_Mo_find_23 rfl ?_
      refine hw_istore_n X dd_Mo_find_27 (by decide) rfl ?_
      refine hw_iinc X (v := (x3 + 1)) dd_Mo_find_28 rfl rfl (by decide) rfl ?_
      refine hw_goto X (tgt := 4) dd_Mo_find_31 rfl ?_
      exact hK _ _ _ _ _ _ vc
end
section
variable {p : Program} {l : Launch} {e : Env} {R : Room} {s : State} {m : MethodId} {args : Array Value} {below : List Frame} {meth : Method} {c : Code} {Q : State → Prop} {g : hw_G} {A : Nat → Prop} {k n : Nat} {w : hw_H}
def vc_Mo_literal_0 (l : Launch) (g : hw_G) (R : Room) (K : Nat → Nat → Nat → List (Option Value) → List Value → hw_H → Prop) (PR : Nat → Nat → Int32 → hw_H → Prop) (k n : Nat) (a0 : Nat) (x1 : Int32) (x2 : Int32) (w : hw_H) : Prop := hw_o w a0 "ProofCourtModel" ∧ hw_ci l g R k n ym_Mo_find (mw_Mo_find) 4 [.ref a0, .int x1] w (fun (k2 n3 : Nat) (x_4 : Int32) (w1 : hw_H) => ((x_4 < 0) → (PR k2 n3 (0 : Int32) w1)) ∧ ((¬ x_4 < 0) → (∃ b_5 : Nat, hw_g w1 a0 8 9 (.ref b_5) ∧ (∃ x_6 : Int32, hw_ai g 0 w1 b_5 ((24 : Int32) + x_4) x_6 ∧ (hw_ci l g R k2 n3 ym_Mo_in (mw_Mo_in) 3 [.int x2, .int (0 : Int32), .int (x_6 - (1 : Int32))] w1 (fun (k8 n9 : Nat) (x_10 : Int32) (w7 : hw_H) => ((x_10 = 0) → (PR k8 n9 (0 : Int32) w7)) ∧ ((¬ x_10 = 0) → (hw_o w7 a0 "ProofCourtModel" ∧ hw_ci l g R k8 n9 ym_Mo_literalOf (mw_Mo_literalOf) 3 [.ref a0, .int ((24 : Int32) + x_4), .int x2] w7 (fun (k12 n13 : Nat) (x_14 : Int32) (w11 : hw_H) => PR k12 n13 x_14 w11)))))))))
set_option maxHeartbeats 4000000 in
set_option maxRecDepth 100000 in
theorem sg_Mo_literal_0 (X : hw_X p m c cb_Mo_literal 4 s args (mw_Mo_literal) "ProofCourtModel" g A) {K : Nat → Nat → Nat → List (Option Value) → List Value → hw_H → Prop} {PR : Nat → Nat → Int32 → hw_H → Prop} (hK : ∀ (k n pc : Nat) (lv : List (Option Value)) (st : List Value) (w : hw_H), K k n pc lv st w → hw_J p l e R s m args below meth c Q 4 g A k n pc lv st w) (rt : ∀ {k n pc : Nat} {lv : List (Option Value)} {x : Int32} {w : hw_H}, decode cb_Mo_literal pc = .ok (.ireturn, 1) → PR k n x w → hw_J p l e R s m args below meth c Q 4 g A k n pc lv [.int x] w) {a0 : Nat} {x1 : Int32} {x2 : Int32} (vc : vc_Mo_literal_0 l g R K PR k n a0 x1 x2 w) : hw_J p l e R s m args below meth c Q 4 g A k n 0 [some (.ref a0), some (.int x1), some (.int x2), none] [] w := by
  unfold vc_Mo_literal_0 at vc
  refine hw_aload_n X (Or.inr ⟨_, rfl⟩) dd_Mo_literal_0 rfl ?_
  refine hw_iload_n X dd_Mo_literal_1 rfl ?_
  obtain ⟨hob, rm9, po9, hM9, hf9, hc9, vc⟩ := vc
  refine hw_callVi X (As := [.int x1]) (ye_Mo_117 X) hM9 rfl hf9 hc9 hob (Nat.le_of_ble_eq_true rfl) rfl dd_Mo_literal_2 (fun x_4 w1 hp => ?_)
  replace vc := vc x_4 w1 hp
  refine hw_istore_n X dd_Mo_literal_5 (by decide) rfl ?_
  refine hw_iload_n X dd_Mo_literal_6 rfl ?_
  refine hw_if_lt X (tgt := 41) dd_Mo_literal_7 rfl (fun hc => ?_) (fun hc => ?_)
  · replace vc := vc.1 hc
    refine hw_iconst X (v := 0) dd_Mo_literal_41 (by decide) ?_
    exact rt dd_Mo_literal_42 vc
  · replace vc := vc.2 hc
    refine hw_iload_n X dd_Mo_literal_10 rfl ?_
    refine hw_iconst X (v := 0) dd_Mo_literal_11 (by decide) ?_
    refine hw_aload_n X (Or.inr ⟨_, rfl⟩) dd_Mo_literal_12 rfl ?_
    obtain ⟨b_5, h9, vc⟩ := vc
    refine hw_get X (fe_Mo_19 X) h9 dd_Mo_literal_13 ?_
    refine hw_bipush X (v := 24) dd_Mo_literal_16 (by decide) ?_
    refine hw_iload_n X dd_Mo_literal_18 rfl ?_
    refine hw_iadd X dd_Mo_literal_19 ?_
    obtain ⟨x_6, h9, vc⟩ := vc
    refine hw_iald X h9 dd_Mo_literal_20 ?_
    refine hw_iconst X (v := 1) dd_Mo_literal_21 (by decide) ?_
    refine hw_isub X dd_Mo_literal_22 ?_
    obtain ⟨rm9, po9, hM9, hf9, hc9, vc⟩ := vc
    refine hw_callSi X (As := [.int x2, .int (0 : Int32), .int (x_6 - (1 : Int32))]) (ye_Mo_38 X) hM9 rfl hf9 hc9 (Nat.le_of_ble_eq_true rfl) rfl dd_Mo_literal_23 (fun x_10 w7 hp => ?_)
    replace vc := vc x_10 w7 hp
    refine hw_if_eq X (tgt := 41) dd_Mo_literal_26 rfl (fun hc => ?_) (fun hc => ?_)
    · replace vc := vc.1 hc
      refine hw_iconst X (v := 0) dd_Mo_literal_41 (by decide) ?_
      exact rt dd_Mo_literal_42 vc
    · replace vc := vc.2 hc
      refine hw_aload_n X (Or.inr ⟨_, rfl⟩) dd_Mo_literal_29 rfl ?_
      refine hw_bipush X (v := 24) dd_Mo_literal_30 (by decide) ?_
      refine hw_iload_n X dd_Mo_literal_32 rfl ?_
      refine hw_iadd X dd_Mo_literal_33 ?_
      refine hw_iload_n X dd_Mo_literal_34 rfl ?_
      obtain ⟨hob, rm9, po9, hM9, hf9, hc9, vc⟩ := vc
      refine hw_callVi X (As := [.int ((24 : Int32) + x_4), .int x2]) (ye_Mo_76 X) hM9 rfl hf9 hc9 hob (Nat.le_of_ble_eq_true rfl) rfl dd_Mo_literal_35 (fun x_14 w11 hp => ?_)
      replace vc := vc x_14 w11 hp
      refine hw_goto X (tgt := 42) dd_Mo_literal_38 rfl ?_
      exact rt dd_Mo_literal_42 vc
end
