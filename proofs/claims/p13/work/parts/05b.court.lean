section
variable {p : Program} {l : Launch} {e : Env} {R : Room} {s : State} {m : MethodId} {args : Array Value} {below : List Frame} {meth : Method} {c : Code} {Q : State → Prop} {g : hw_G} {A : Nat → Prop} {k n : Nat} {w : hw_H}
def vc_Co_init_0 (l : Launch) (g : hw_G) (R : Room) (K : Nat → Nat → Nat → List (Option Value) → List Value → hw_H → Prop) (PR : Nat → Nat → hw_H → Prop) (k n : Nat) (a0 : Nat) (w : hw_H) : Prop := (k + 1 ≤ R.cells ∧ n + 6 ≤ R.slots) ∧ ∀ (q1 : Nat) (w2 : hw_H), w q1 = none → w2 = va_up w q1 (some (.inr (0, [.null, .int 0, .int 0, .int 0, .int 0, .int 0]))) → (hw_cv l g R (k + 1) (n + 6) ym_Te_init (mw_Te_init) 1 [.ref q1] w2 (fun (k4 n5 : Nat) (w3 : hw_H) => ∃ w6 : hw_H, hw_p w3 a0 4 0 (.ref q1) w6 ∧ ((k4 + 1 ≤ R.cells ∧ n5 + 4 ≤ R.slots) ∧ ∀ (q7 : Nat) (w8 : hw_H), w6 q7 = none → w8 = va_up w6 q7 (some (.inr (1, [.null, .int 0, .int 0, .int 0]))) → (hw_cv l g R (k4 + 1) (n5 + 4) ym_Pr_init (mw_Pr_init) 1 [.ref q7] w8 (fun (k10 n11 : Nat) (w9 : hw_H) => ∃ w12 : hw_H, hw_p w9 a0 4 1 (.ref q7) w12 ∧ ((k10 + 1 ≤ R.cells ∧ n11 + 15 ≤ R.slots) ∧ ∀ (q13 : Nat) (w14 : hw_H), w12 q13 = none → w14 = va_up w12 q13 (some (.inr (2, [.null, .int 0, .int 0, .int 0, .int 0, .int 0, .int 0, .int 0, .null, .null, .int 0, .null, .int 0, .null, .int 0]))) → (hw_cv l g R (k10 + 1) (n11 + 15) ym_Se_init (mw_Se_init) 1 [.ref q13] w14 (fun (k16 n17 : Nat) (w15 : hw_H) => ∃ w18 : hw_H, hw_p w15 a0 4 2 (.ref q13) w18 ∧ ((k16 + 1 ≤ R.cells ∧ n17 + 4 ≤ R.slots) ∧ ∀ (q19 : Nat) (w20 : hw_H), w18 q19 = none → w20 = va_up w18 q19 (some (.inr (3, [.int 0, .null, .int 0, .int 0]))) → (hw_cv l g R (k16 + 1) (n17 + 4) ym_Fo_init (mw_Fo_init) 2 [.ref q19, .int (0 : Int32)] w20 (fun (k22 n23 : Nat) (w21 : hw_H) => hw_o w21 a0 "ProofCourt" ∧ hw_cv l g R k22 n23 ym_Co_take (mw_Co_take) 2 [.ref a0, .ref q19] w21 (fun (k25 n26 : Nat) (w24 : hw_H) => PR k25 n26 w24))))))))))))
set_option maxHeartbeats 4000000 in
set_option maxRecDepth 100000 in
theorem sg_Co_init_0 (X : hw_X p m c cb_Co_init 1 s args (mw_Co_init) "ProofCourt" g A) (hin : meth.name = "<init>") (hRm : 1 ≤ R.frames ∧ 20 ≤ R.locals) {K : Nat → Nat → Nat → List (Option Value) → List Value → hw_H → Prop} {PR : Nat → Nat → hw_H → Prop} (hK : ∀ (k n pc : Nat) (lv : List (Option Value)) (st : List Value) (w : hw_H), K k n pc lv st w → hw_J p l e R s m args below meth c Q 1 g A k n pc lv st w) (rt : ∀ {k n pc : Nat} {lv : List (Option Value)} {w : hw_H}, decode cb_Co_init pc = .ok (.return_, 1) → PR k n w → hw_J p l e R s m args below meth c Q 1 g A k n pc lv [] w) {a0 : Nat} (vc : vc_Co_init_0 l g R K PR k n a0 w) : hw_J p l e R s m args below meth c Q 1 g A k n 0 [some (.ref a0)] [] w := by
  unfold vc_Co_init_0 at vc
  refine hw_aload_n X (Or.inr ⟨_, rfl⟩) dd_Co_init_0 rfl ?_
  refine hw_objInit X (oi_Co_3 X) (oj_Co X) (ok_Co X) (hw_oi1 hRm) (hw_oi2 hRm) (by decide) dd_Co_init_1 ?_
  refine hw_aload_n X (Or.inr ⟨_, rfl⟩) dd_Co_init_4 rfl ?_
  refine hw_new X (ne_Co_9 X) vc.1.1 vc.1.2 dd_Co_init_5 (fun q1 hq => ?_)
  replace vc := vc.2 q1 _ hq rfl
  refine hw_dup X rfl dd_Co_init_8 ?_
  obtain ⟨rm9, po9, hM9, hf9, hc9, vc⟩ := vc
  refine hw_callIv X (As := []) (ye_Co_11 X) hM9 rfl hf9 hc9 (Nat.le_of_ble_eq_true rfl) rfl dd_Co_init_9 (fun w3 hp => ?_)
  replace vc := vc w3 hp
  obtain ⟨w6, h9, vc⟩ := vc
  refine hw_putF X (ff_Co_12 X) hin rfl rfl h9 dd_Co_init_12 ?_
  refine hw_aload_n X (Or.inr ⟨_, rfl⟩) dd_Co_init_15 rfl ?_
  refine hw_new X (ne_Co_16 X) vc.1.1 vc.1.2 dd_Co_init_16 (fun q7 hq => ?_)
  replace vc := vc.2 q7 _ hq rfl
  refine hw_dup X rfl dd_Co_init_19 ?_
  obtain ⟨rm9, po9, hM9, hf9, hc9, vc⟩ := vc
  refine hw_callIv X (As := []) (ye_Co_18 X) hM9 rfl hf9 hc9 (Nat.le_of_ble_eq_true rfl) rfl dd_Co_init_20 (fun w9 hp => ?_)
  replace vc := vc w9 hp
  obtain ⟨w12, h9, vc⟩ := vc
  refine hw_putF X (ff_Co_19 X) hin rfl rfl h9 dd_Co_init_23 ?_
  refine hw_aload_n X (Or.inr ⟨_, rfl⟩) dd_Co_init_26 rfl ?_
  refine hw_new X (ne_Co_23 X) vc.1.1 vc.1.2 dd_Co_init_27 (fun q13 hq => ?_)
  replace vc := vc.2 q13 _ hq rfl
  refine hw_dup X rfl dd_Co_init_30 ?_
  obtain ⟨rm9, po9, hM9, hf9, hc9, vc⟩ := vc
  refine hw_callIv X (As := []) (ye_Co_25 X) hM9 rfl hf9 hc9 (Nat.le_of_ble_eq_true rfl) rfl dd_Co_init_31 (fun w15 hp => ?_)
  replace vc := vc w15 hp
  obtain ⟨w18, h9, vc⟩ := vc
  refine hw_putF X (ff_Co_26 X) hin rfl rfl h9 dd_Co_init_34 ?_
  refine hw_aload_n X (Or.inr ⟨_, rfl⟩) dd_Co_init_37 rfl ?_
  refine hw_new X (ne_Co_30 X) vc.1.1 vc.1.2 dd_Co_init_38 (fun q19 hq => ?_)
  replace vc := vc.2 q19 _ hq rfl
  refine hw_dup X rfl dd_Co_init_41 ?_
  refine hw_iconst X (v := 0) dd_Co_init_42 (by decide) ?_
  obtain ⟨rm9, po9, hM9, hf9, hc9, vc⟩ := vc
  refine hw_callIv X (As := [.int (0 : Int32)]) (ye_Co_32 X) hM9 rfl hf9 hc9 (Nat.le_of_ble_eq_true rfl) rfl dd_Co_init_43 (fun w21 hp => ?_)
  replace vc := vc w21 hp
  obtain ⟨hob, rm9, po9, hM9, hf9, hc9, vc⟩ := vc
  refine hw_callVv X (As := [.ref q19]) (ye_Co_35 X) hM9 rfl hf9 hc9 hob (Nat.le_of_ble_eq_true rfl) rfl dd_Co_init_46 (fun w24 hp => ?_)
  replace vc := vc w24 hp
  exact rt dd_Co_init_49 vc
end
section
variable {p : Program} {l : Launch} {e : Env} {R : Room} {s : State} {m : MethodId} {args : Array Value} {below : List Frame} {meth : Method} {c : Code} {Q : State → Prop} {g : hw_G} {A : Nat → Prop} {k n : Nat} {w : hw_H}
def vc_Co_type_0 (l : Launch) (g : hw_G) (R : Room) (K : Nat → Nat → Nat → List (Option Value) → List Value → hw_H → Prop) (PR : Nat → Nat → Int32 → hw_H → Prop) (k n : Nat) (a0 : Nat) (x1 : Int32) (x2 : Int32) (w : hw_H) : Prop := ∃ b_1 : Nat, hw_g w a0 4 0 (.ref b_1) ∧ (hw_o w b_1 "ProofCourt$Text" ∧ hw_ci l g R k n ym_Te_append (mw_Te_append) 4 [.ref b_1, .int x1, .int x2] w (fun (k3 n4 : Nat) (x_5 : Int32) (w2 : hw_H) => PR k3 n4 x_5 w2))
set_option maxHeartbeats 4000000 in
set_option maxRecDepth 100000 in
theorem sg_Co_type_0 (X : hw_X p m c cb_Co_type 3 s args (mw_Co_type) "ProofCourt" g A) {K : Nat → Nat → Nat → List (Option Value) → List Value → hw_H → Prop} {PR : Nat → Nat → Int32 → hw_H → Prop} (hK : ∀ (k n pc : Nat) (lv : List (Option Value)) (st : List Value) (w : hw_H), K k n pc lv st w → hw_J p l e R s m args below meth c Q 3 g A k n pc lv st w) (rt : ∀ {k n pc : Nat} {lv : List (Option Value)} {x : Int32} {w : hw_H}, decode cb_Co_type pc = .ok (.ireturn, 1) → PR k n x w → hw_J p l e R s m args below meth c Q 3 g A k n pc lv [.int x] w) {a0 : Nat} {x1 : Int32} {x2 : Int32} (vc : vc_Co_type_0 l g R K PR k n a0 x1 x2 w) : hw_J p l e R s m args below meth c Q 3 g A k n 0 [some (.ref a0), some (.int x1), some (.int x2)] [] w := by
  unfold vc_Co_type_0 at vc
  refine hw_aload_n X (Or.inr ⟨_, rfl⟩) dd_Co_type_0 rfl ?_
  obtain ⟨b_1, h9, vc⟩ := vc
  refine hw_get X (fe_Co_12 X) h9 dd_Co_type_1 ?_
  refine hw_iload_n X dd_Co_type_4 rfl ?_
  refine hw_iload_n X dd_Co_type_5 rfl ?_
  obtain ⟨hob, rm9, po9, hM9, hf9, hc9, vc⟩ := vc
  refine hw_callVi X (As := [.int x1, .int x2]) (ye_Co_39 X) hM9 rfl hf9 hc9 hob (Nat.le_of_ble_eq_true rfl) rfl dd_Co_type_6 (fun x_5 w2 hp => ?_)
  replace vc := vc x_5 w2 hp
  exact rt dd_Co_type_9 vc
end
section
variable {p : Program} {l : Launch} {e : Env} {R : Room} {s : State} {m : MethodId} {args : Array Value} {below : List Frame} {meth : Method} {c : Code} {Q : State → Prop} {g : hw_G} {A : Nat → Prop} {k n : Nat} {w : hw_H}
def vc_Co_read_0 (l : Launch) (g : hw_G) (R : Room) (K : Nat → Nat → Nat → List (Option Value) → List Value → hw_H → Prop) (PR : Nat → Nat → Int32 → hw_H → Prop) (k n : Nat) (a0 : Nat) (w : hw_H) : Prop := ∃ b_1 : Nat, hw_g w a0 4 0 (.ref b_1) ∧ (hw_cq l g R k n ym_Fo_formulaIn (mw_Fo_formulaIn) 2 [.ref b_1] w (fun (k3 n4 : Nat) (o_5 : Option Nat) (w2 : hw_H) => ∃ b_6 : Nat, hw_g w2 a0 4 0 (.ref b_6) ∧ (∃ x_7 : Int32, hw_g w2 b_6 0 3 (.int x_7) ∧ (∃ b_8 : Nat, hw_g w2 a0 4 0 (.ref b_8) ∧ (hw_o w2 b_8 "ProofCourt$Text" ∧ hw_cv l g R k3 n4 ym_Te_clear (mw_Te_clear) 1 [.ref b_8] w2 (fun (k10 n11 : Nat) (w9 : hw_H) => (o_5 = none → (PR k10 n11 ((-1 : Int32) - x_7) w9)) ∧ (∀ q12 : Nat, o_5 = some q12 → (hw_o w9 a0 "ProofCourt" ∧ hw_cv l g R k10 n11 ym_Co_take (mw_Co_take) 2 [.ref a0, .ref q12] w9 (fun (k14 n15 : Nat) (w13 : hw_H) => ∃ x_16 : Int32, hw_g w13 q12 3 2 (.int x_16) ∧ (PR k14 n15 x_16 w13))))))))))
set_option maxHeartbeats 4000000 in
set_option maxRecDepth 100000 in
theorem sg_Co_read_0 (X : hw_X p m c cb_Co_read 3 s args (mw_Co_read) "ProofCourt" g A) {K : Nat → Nat → Nat → List (Option Value) → List Value → hw_H → Prop} {PR : Nat → Nat → Int32 → hw_H → Prop} (hK : ∀ (k n pc : Nat) (lv : List (Option Value)) (st : List Value) (w : hw_H), K k n pc lv st w → hw_J p l e R s m args below meth c Q 3 g A k n pc lv st w) (rt : ∀ {k n pc : Nat} {lv : List (Option Value)} {x : Int32} {w : hw_H}, decode cb_Co_read pc = .ok (.ireturn, 1) → PR k n x w → hw_J p l e R s m args below meth c Q 3 g A k n pc lv [.int x] w) {a0 : Nat} (vc : vc_Co_read_0 l g R K PR k n a0 w) : hw_J p l e R s m args below meth c Q 3 g A k n 0 [some (.ref a0), none, none] [] w := by
  unfold vc_Co_read_0 at vc
  refine hw_aload_n X (Or.inr ⟨_, rfl⟩) dd_Co_read_0 rfl ?_
  obtain ⟨b_1, h9, vc⟩ := vc
  refine hw_get X (fe_Co_12 X) h9 dd_Co_read_1 ?_
  obtain ⟨rm9, po9, hM9, hf9, hc9, vc⟩ := vc
  refine hw_callSq X (As := [.ref b_1]) (ye_Co_43 X) hM9 rfl hf9 hc9 (Nat.le_of_ble_eq_true rfl) rfl dd_Co_read_4 (fun o_5 w2 hp => ?_)
  replace vc := vc o_5 w2 hp
  refine hw_astore_n X (va_rf_or _) dd_Co_read_7 (by decide) rfl ?_
  refine hw_aload_n X (Or.inr ⟨_, rfl⟩) dd_Co_read_8 rfl ?_
  obtain ⟨b_6, h9, vc⟩ := vc
  refine hw_get X (fe_Co_12 X) h9 dd_Co_read_9 ?_
  obtain ⟨x_7, h9, vc⟩ := vc
  refine hw_get X (fe_Co_47 X) h9 dd_Co_read_12 ?_
  refine hw_istore_n X dd_Co_read_15 (by decide) rfl ?_
  refine hw_aload_n X (Or.inr ⟨_, rfl⟩) dd_Co_read_16 rfl ?_
  obtain ⟨b_8, h9, vc⟩ := vc
  refine hw_get X (fe_Co_12 X) h9 dd_Co_read_17 ?_
  obtain ⟨hob, rm9, po9, hM9, hf9, hc9, vc⟩ := vc
  refine hw_callVv X (As := []) (ye_Co_51 X) hM9 rfl hf9 hc9 hob (Nat.le_of_ble_eq_true rfl) rfl dd_Co_read_20 (fun w9 hp => ?_)
  replace vc := vc w9 hp
  refine hw_aload_n X (va_rf_or _) dd_Co_read_23 rfl ?_
  refine hw_ifnonnull X (tgt := 31) dd_Co_read_24 rfl (fun q12 hc => ?_) (fun hc => ?_)
  · replace vc := vc.2 q12 hc
    subst hc
    refine hw_aload_n X (Or.inr ⟨_, rfl⟩) dd_Co_read_31 rfl ?_
    refine hw_aload_n X (Or.inr ⟨_, rfl⟩) dd_Co_read_32 rfl ?_
    obtain ⟨hob, rm9, po9, hM9, hf9, hc9, vc⟩ := vc
    refine hw_callVv X (As := [.ref q12]) (ye_Co_35 X) hM9 rfl hf9 hc9 hob (Nat.le_of_ble_eq_true rfl) rfl dd_Co_read_33 (fun w13 hp => ?_)
    replace vc := vc w13 hp
    refine hw_aload_n X (Or.inr ⟨_, rfl⟩) dd_Co_read_36 rfl ?_
    obtain ⟨x_16, h9, vc⟩ := vc
    refine hw_get X (fe_Co_54 X) h9 dd_Co_read_37 ?_
    exact rt dd_Co_read_40 vc
  · replace vc := vc.1 hc
    refine hw_iconst X (v := -1) dd_Co_read_27 (by decide) ?_
    refine hw_iload_n X dd_Co_read_28 rfl ?_
    refine hw_isub X dd_Co_read_29 ?_
    exact rt dd_Co_read_30 vc
end
section
variable {p : Program} {l : Launch} {e : Env} {R : Room} {s : State} {m : MethodId} {args : Array Value} {below : List Frame} {meth : Method} {c : Code} {Q : State → Prop} {g : hw_G} {A : Nat → Prop} {k n : Nat} {w : hw_H}
def vc_Co_variables_0 (l : Launch) (g : hw_G) (R : Room) (K : Nat → Nat → Nat → List (Option Value) → List Value → hw_H → Prop) (PR : Nat → Nat → Int32 → hw_H → Prop) (k n : Nat) (a0 : Nat) (w : hw_H) : Prop := ∃ b_1 : Nat, hw_g w a0 4 3 (.ref b_1) ∧ (∃ x_2 : Int32, hw_g w b_1 3 0 (.int x_2) ∧ (PR k n x_2 w))
set_option maxHeartbeats 4000000 in
set_option maxRecDepth 100000 in
theorem sg_Co_variables_0 (X : hw_X p m c cb_Co_variables 1 s args (mw_Co_variables) "ProofCourt" g A) {K : Nat → Nat → Nat → List (Option Value) → List Value → hw_H → Prop} {PR : Nat → Nat → Int32 → hw_H → Prop} (hK : ∀ (k n pc : Nat) (lv : List (Option Value)) (st : List Value) (w : hw_H), K k n pc lv st w → hw_J p l e R s m args below meth c Q 1 g A k n pc lv st w) (rt : ∀ {k n pc : Nat} {lv : List (Option Value)} {x : Int32} {w : hw_H}, decode cb_Co_variables pc = .ok (.ireturn, 1) → PR k n x w → hw_J p l e R s m args below meth c Q 1 g A k n pc lv [.int x] w) {a0 : Nat} (vc : vc_Co_variables_0 l g R K PR k n a0 w) : hw_J p l e R s m args below meth c Q 1 g A k n 0 [some (.ref a0)] [] w := by
  unfold vc_Co_variables_0 at vc
  refine hw_aload_n X (Or.inr ⟨_, rfl⟩) dd_Co_variables_0 rfl ?_
  obtain ⟨b_1, h9, vc⟩ := vc
  refine hw_get X (fe_Co_57 X) h9 dd_Co_variables_1 ?_
  obtain ⟨x_2, h9, vc⟩ := vc
  refine hw_get X (fe_Co_61 X) h9 dd_Co_variables_4 ?_
  exact rt dd_Co_variables_7 vc
end
section
variable {p : Program} {l : Launch} {e : Env} {R : Room} {s : State} {m : MethodId} {args : Array Value} {below : List Frame} {meth : Method} {c : Code} {Q : State → Prop} {g : hw_G} {A : Nat → Prop} {k n : Nat} {w : hw_H}
def vc_Co_live_0 (l : Launch) (g : hw_G) (R : Room) (K : Nat → Nat → Nat → List (Option Value) → List Value → hw_H → Prop) (PR : Nat → Nat → Int32 → hw_H → Prop) (k n : Nat) (a0 : Nat) (w : hw_H) : Prop := ∃ b_1 : Nat, hw_g w a0 4 1 (.ref b_1) ∧ (∃ x_2 : Int32, hw_g w b_1 1 1 (.int x_2) ∧ (PR k n x_2 w))
set_option maxHeartbeats 4000000 in
set_option maxRecDepth 100000 in
theorem sg_Co_live_0 (X : hw_X p m c cb_Co_live 1 s args (mw_Co_live) "ProofCourt" g A) {K : Nat → Nat → Nat → List (Option Value) → List Value → hw_H → Prop} {PR : Nat → Nat → Int32 → hw_H → Prop} (hK : ∀ (k n pc : Nat) (lv : List (Option Value)) (st : List Value) (w : hw_H), K k n pc lv st w → hw_J p l e R s m args below meth c Q 1 g A k n pc lv st w) (rt : ∀ {k n pc : Nat} {lv : List (Option Value)} {x : Int32} {w : hw_H}, decode cb_Co_live pc = .ok (.ireturn, 1) → PR k n x w → hw_J p l e R s m args below meth c Q 1 g A k n pc lv [.int x] w) {a0 : Nat} (vc : vc_Co_live_0 l g R K PR k n a0 w) : hw_J p l e R s m args below meth c Q 1 g A k n 0 [some (.ref a0)] [] w := by
  unfold vc_Co_live_0 at vc
  refine hw_aload_n X (Or.inr ⟨_, rfl⟩) dd_Co_live_0 rfl ?_
  obtain ⟨b_1, h9, vc⟩ := vc
  refine hw_get X (fe_Co_19 X) h9 dd_Co_live_1 ?_
  obtain ⟨x_2, h9, vc⟩ := vc
  refine hw_get X (fe_Co_64 X) h9 dd_Co_live_4 ?_
  exact rt dd_Co_live_7 vc
end
section
variable {p : Program} {l : Launch} {e : Env} {R : Room} {s : State} {m : MethodId} {args : Array Value} {below : List Frame} {meth : Method} {c : Code} {Q : State → Prop} {g : hw_G} {A : Nat → Prop} {k n : Nat} {w : hw_H}
def vc_Co_literal_0 (l : Launch) (g : hw_G) (R : Room) (K : Nat → Nat → Nat → List (Option Value) → List Value → hw_H → Prop) (PR : Nat → Nat → Int32 → hw_H → Prop) (k n : Nat) (a0 : Nat) (x1 : Int32) (x2 : Int32) (w : hw_H) : Prop := ∃ b_1 : Nat, hw_g w a0 4 1 (.ref b_1) ∧ (hw_o w b_1 "ProofCourt$Proof" ∧ hw_cq l g R k n ym_Pr_find (mw_Pr_find) 3 [.ref b_1, .int x1] w (fun (k3 n4 : Nat) (o_5 : Option Nat) (w2 : hw_H) => (o_5 = none → (PR k3 n4 (0 : Int32) w2)) ∧ (∀ q6 : Nat, o_5 = some q6 → (((x2 < 0) → (PR k3 n4 (0 : Int32) w2)) ∧ ((¬ x2 < 0) → (∃ x_7 : Int32, hw_g w2 q6 5 2 (.int x_7) ∧ (((x2 < x_7) → (∃ b_8 : Nat, hw_g w2 q6 5 1 (.ref b_8) ∧ (∃ x_9 : Int32, hw_ai g 0 w2 b_8 x2 x_9 ∧ (PR k3 n4 x_9 w2)))) ∧ ((¬ x2 < x_7) → (PR k3 n4 (0 : Int32) w2)))))))))
set_option maxHeartbeats 4000000 in
set_option maxRecDepth 100000 in
theorem sg_Co_literal_0 (X : hw_X p m c cb_Co_literal 4 s args (mw_Co_literal) "ProofCourt" g A) {K : Nat → Nat → Nat → List (Option Value) → List Value → hw_H → Prop} {PR : Nat → Nat → Int32 → hw_H → Prop} (hK : ∀ (k n pc : Nat) (lv : List (Option Value)) (st : List Value) (w : hw_H), K k n pc lv st w → hw_J p l e R s m args below meth c Q 4 g A k n pc lv st w) (rt : ∀ {k n pc : Nat} {lv : List (Option Value)} {x : Int32} {w : hw_H}, decode cb_Co_literal pc = .ok (.ireturn, 1) → PR k n x w → hw_J p l e R s m args below meth c Q 4 g A k n pc lv [.int x] w) {a0 : Nat} {x1 : Int32} {x2 : Int32} (vc : vc_Co_literal_0 l g R K PR k n a0 x1 x2 w) : hw_J p l e R s m args below meth c Q 4 g A k n 0 [some (.ref a0), some (.int x1), some (.int x2), none] [] w := by
  unfold vc_Co_literal_0 at vc
  refine hw_aload_n X (Or.inr ⟨_, rfl⟩) dd_Co_literal_0 rfl ?_
  obtain ⟨b_1, h9, vc⟩ := vc
  refine hw_get X (fe_Co_19 X) h9 dd_Co_literal_1 ?_
  refine hw_iload_n X dd_Co_literal_4 rfl ?_
  obtain ⟨hob, rm9, po9, hM9, hf9, hc9, vc⟩ := vc
  refine hw_callVq X (As := [.int x1]) (ye_Co_65 X) hM9 rfl hf9 hc9 hob (Nat.le_of_ble_eq_true rfl) rfl dd_Co_literal_5 (fun o_5 w2 hp => ?_)
  replace vc := vc o_5 w2 hp
  refine hw_astore_n X (va_rf_or _) dd_Co_literal_8 (by decide) rfl ?_
  refine hw_aload_n X (va_rf_or _) dd_Co_literal_9 rfl ?_
  refine hw_ifnull X (tgt := 25) dd_Co_literal_10 rfl (fun hc => ?_) (fun q6 hc => ?_)
  · replace vc := vc.1 hc
    refine hw_iconst X (v := 0) dd_Co_literal_25 (by decide) ?_
    refine hw_goto X (tgt := 35) dd_Co_literal_26 rfl ?_
    exact rt dd_Co_literal_35 vc
  · replace vc := vc.2 q6 hc
    subst hc
    refine hw_iload_n X dd_Co_literal_13 rfl ?_
    refine hw_if_lt X (tgt := 25) dd_Co_literal_14 rfl (fun hc => ?_) (fun hc => ?_)
    · replace vc := vc.1 hc
      refine hw_iconst X (v := 0) dd_Co_literal_25 (by decide) ?_
      refine hw_goto X (tgt := 35) dd_Co_literal_26 rfl ?_
      exact rt dd_Co_literal_35 vc
    · replace vc := vc.2 hc
      refine hw_iload_n X dd_Co_literal_17 rfl ?_
      refine hw_aload_n X (Or.inr ⟨_, rfl⟩) dd_Co_literal_18 rfl ?_
      obtain ⟨x_7, h9, vc⟩ := vc
      refine hw_get X (fe_Co_69 X) h9 dd_Co_literal_19 ?_
      refine hw_icmp_lt X (tgt := 29) dd_Co_literal_22 rfl (fun hc => ?_) (fun hc => ?_)
      · replace vc := vc.1 hc
        refine hw_aload_n X (Or.inr ⟨_, rfl⟩) dd_Co_literal_29 rfl ?_
        obtain ⟨b_8, h9, vc⟩ := vc
        refine hw_get X (fe_Co_72 X) h9 dd_Co_literal_30 ?_
        refine hw_iload_n X dd_Co_literal_33 rfl ?_
        obtain ⟨x_9, h9, vc⟩ := vc
        refine hw_iald X h9 dd_Co_literal_34 ?_
        exact rt dd_Co_literal_35 vc
      · replace vc := vc.2 hc
        refine hw_iconst X (v := 0) dd_Co_literal_25 (by decide) ?_
        refine hw_goto X (tgt := 35) dd_Co_literal_26 rfl ?_
        exact rt dd_Co_literal_35 vc
end
section
variable {p : Program} {l : Launch} {e : Env} {R : Room} {s : State} {m : MethodId} {args : Array Value} {below : List Frame} {meth : Method} {c : Code} {Q : State → Prop} {g : hw_G} {A : Nat → Prop} {k n : Nat} {w : hw_H}
def vc_Co_solve_0 (l : Launch) (g : hw_G) (R : Room) (K : Nat → Nat → Nat → List (Option Value) → List Value → hw_H → Prop) (PR : Nat → Nat → Int32 → hw_H → Prop) (k n : Nat) (a0 : Nat) (w : hw_H) : Prop := ∃ b_1 : Nat, hw_g w a0 4 2 (.ref b_1) ∧ (hw_o w b_1 "ProofCourt$Search" ∧ hw_ci l g R k n ym_Se_finds (mw_Se_finds) 3 [.ref b_1] w (fun (k3 n4 : Nat) (x_5 : Int32) (w2 : hw_H) => ((x_5 = 0) → (PR k3 n4 (0 : Int32) w2)) ∧ ((¬ x_5 = 0) → (PR k3 n4 (1 : Int32) w2))))
set_option maxHeartbeats 4000000 in
set_option maxRecDepth 100000 in
theorem sg_Co_solve_0 (X : hw_X p m c cb_Co_solve 1 s args (mw_Co_solve) "ProofCourt" g A) {K : Nat → Nat → Nat → List (Option Value) → List Value → hw_H → Prop} {PR : Nat → Nat → Int32 → hw_H → Prop} (hK : ∀ (k n pc : Nat) (lv : List (Option Value)) (st : List Value) (w : hw_H), K k n pc lv st w → hw_J p l e R s m args below meth c Q 1 g A k n pc lv st w) (rt : ∀ {k n pc : Nat} {lv : List (Option Value)} {x : Int32} {w : hw_H}, decode cb_Co_solve pc = .ok (.ireturn, 1) → PR k n x w → hw_J p l e R s m args below meth c Q 1 g A k n pc lv [.int x] w) {a0 : Nat} (vc : vc_Co_solve_0 l g R K PR k n a0 w) : hw_J p l e R s m args below meth c Q 1 g A k n 0 [some (.ref a0)] [] w := by
  unfold vc_Co_solve_0 at vc
  refine hw_aload_n X (Or.inr ⟨_, rfl⟩) dd_Co_solve_0 rfl ?_
  obtain ⟨b_1, h9, vc⟩ := vc
  refine hw_get X (fe_Co_26 X) h9 dd_Co_solve_1 ?_
  obtain ⟨hob, rm9, po9, hM9, hf9, hc9, vc⟩ := vc
  refine hw_callVi X (As := []) (ye_Co_76 X) hM9 rfl hf9 hc9 hob (Nat.le_of_ble_eq_true rfl) rfl dd_Co_solve_4 (fun x_5 w2 hp => ?_)
  replace vc := vc x_5 w2 hp
  refine hw_if_eq X (tgt := 14) dd_Co_solve_7 rfl (fun hc => ?_) (fun hc => ?_)
  · replace vc := vc.1 hc
    refine hw_iconst X (v := 0) dd_Co_solve_14 (by decide) ?_
    exact rt dd_Co_solve_15 vc
  · replace vc := vc.2 hc
    refine hw_iconst X (v := 1) dd_Co_solve_10 (by decide) ?_
    refine hw_goto X (tgt := 15) dd_Co_solve_11 rfl ?_
    exact rt dd_Co_solve_15 vc
end
section
variable {p : Program} {l : Launch} {e : Env} {R : Room} {s : State} {m : MethodId} {args : Array Value} {below : List Frame} {meth : Method} {c : Code} {Q : State → Prop} {g : hw_G} {A : Nat → Prop} {k n : Nat} {w : hw_H}
def vc_Co_value_0 (l : Launch) (g : hw_G) (R : Room) (K : Nat → Nat → Nat → List (Option Value) → List Value → hw_H → Prop) (PR : Nat → Nat → Int32 → hw_H → Prop) (k n : Nat) (a0 : Nat) (x1 : Int32) (w : hw_H) : Prop := ((x1 < (1 : Int32)) → (PR k n (-1 : Int32) w)) ∧ ((¬ x1 < (1 : Int32)) → (∃ b_1 : Nat, hw_g w a0 4 3 (.ref b_1) ∧ (∃ x_2 : Int32, hw_g w b_1 3 0 (.int x_2) ∧ (((x_2 < x1) → (PR k n (-1 : Int32) w)) ∧ ((¬ x_2 < x1) → (∃ b_3 : Nat, hw_g w a0 4 2 (.ref b_3) ∧ (hw_o w b_3 "ProofCourt$Search" ∧ hw_ci l g R k n ym_Se_finds (mw_Se_finds) 3 [.ref b_3] w (fun (k5 n6 : Nat) (x_7 : Int32) (w4 : hw_H) => ((¬ x_7 = 0) → (∃ b_8 : Nat, hw_g w4 a0 4 2 (.ref b_8) ∧ (∃ x_9 : Int32, hw_g w4 b_8 2 7 (.int x_9) ∧ (hw_ci l g R k5 n6 ym_Co_bit (mw_Co_bit) 1 [.int x1] w4 (fun (k11 n12 : Nat) (x_13 : Int32) (w10 : hw_H) => (((x_9 &&& x_13) = 0) → (PR k11 n12 (0 : Int32) w10)) ∧ ((¬ (x_9 &&& x_13) = 0) → (PR k11 n12 (1 : Int32) w10))))))) ∧ ((x_7 = 0) → (PR k5 n6 (-1 : Int32) w4))))))))))
set_option maxHeartbeats 4000000 in
set_option maxRecDepth 100000 in
theorem sg_Co_value_0 (X : hw_X p m c cb_Co_value 2 s args (mw_Co_value) "ProofCourt" g A) {K : Nat → Nat → Nat → List (Option Value) → List Value → hw_H → Prop} {PR : Nat → Nat → Int32 → hw_H → Prop} (hK : ∀ (k n pc : Nat) (lv : List (Option Value)) (st : List Value) (w : hw_H), K k n pc lv st w → hw_J p l e R s m args below meth c Q 2 g A k n pc lv st w) (rt : ∀ {k n pc : Nat} {lv : List (Option Value)} {x : Int32} {w : hw_H}, decode cb_Co_value pc = .ok (.ireturn, 1) → PR k n x w → hw_J p l e R s m args below meth c Q 2 g A k n pc lv [.int x] w) {a0 : Nat} {x1 : Int32} (vc : vc_Co_value_0 l g R K PR k n a0 x1 w) : hw_J p l e R s m args below meth c Q 2 g A k n 0 [some (.ref a0), some (.int x1)] [] w := by
  unfold vc_Co_value_0 at vc
  refine hw_iload_n X dd_Co_value_0 rfl ?_
  refine hw_iconst X (v := 1) dd_Co_value_1 (by decide) ?_
  refine hw_icmp_lt X (tgt := 26) dd_Co_value_2 rfl (fun hc => ?_) (fun hc => ?_)
  · replace vc := vc.1 hc
    refine hw_iconst X (v := -1) dd_Co_value_26 (by decide) ?_
    exact rt dd_Co_value_27 vc
  · replace vc := vc.2 hc
    refine hw_iload_n X dd_Co_value_5 rfl ?_
    refine hw_aload_n X (Or.inr ⟨_, rfl⟩) dd_Co_value_6 rfl ?_
    obtain ⟨b_1, h9, vc⟩ := vc
    refine hw_get X (fe_Co_57 X) h9 dd_Co_value_7 ?_
    obtain ⟨x_2, h9, vc⟩ := vc
    refine hw_get X (fe_Co_61 X) h9 dd_Co_value_10 ?_
    refine hw_icmp_gt X (tgt := 26) dd_Co_value_13 rfl (fun hc => ?_) (fun hc => ?_)
    · replace vc := vc.1 hc
      refine hw_iconst X (v := -1) dd_Co_value_26 (by decide) ?_
      exact rt dd_Co_value_27 vc
    · replace vc := vc.2 hc
      refine hw_aload_n X (Or.inr ⟨_, rfl⟩) dd_Co_value_16 rfl ?_
      obtain ⟨b_3, h9, vc⟩ := vc
      refine hw_get X (fe_Co_26 X) h9 dd_Co_value_17 ?_
      obtain ⟨hob, rm9, po9, hM9, hf9, hc9, vc⟩ := vc
      refine hw_callVi X (As := []) (ye_Co_76 X) hM9 rfl hf9 hc9 hob (Nat.le_of_ble_eq_true rfl) rfl dd_Co_value_20 (fun x_7 w4 hp => ?_)
      replace vc := vc x_7 w4 hp
      refine hw_if_ne X (tgt := 28) dd_Co_value_23 rfl (fun hc => ?_) (fun hc => ?_)
      · replace vc := vc.1 hc
        refine hw_aload_n X (Or.inr ⟨_, rfl⟩) dd_Co_value_28 rfl ?_
        obtain ⟨b_8, h9, vc⟩ := vc
        refine hw_get X (fe_Co_26 X) h9 dd_Co_value_29 ?_
        obtain ⟨x_9, h9, vc⟩ := vc
        refine hw_get X (fe_Co_80 X) h9 dd_Co_value_32 ?_
        refine hw_iload_n X dd_Co_value_35 rfl ?_
        obtain ⟨rm9, po9, hM9, hf9, hc9, vc⟩ := vc
        refine hw_callSi X (As := [.int x1]) (ye_Co_83 X) hM9 rfl hf9 hc9 (Nat.le_of_ble_eq_true rfl) rfl dd_Co_value_36 (fun x_13 w10 hp => ?_)
        replace vc := vc x_13 w10 hp
        refine hw_iand X dd_Co_value_39 ?_
        refine hw_if_eq X (tgt := 47) dd_Co_value_40 rfl (fun hc => ?_) (fun hc => ?_)
        · replace vc := vc.1 hc
          refine hw_iconst X (v := 0) dd_Co_value_47 (by decide) ?_
          exact rt dd_Co_value_48 vc
        · replace vc := vc.2 hc
          refine hw_iconst X (v := 1) dd_Co_value_43 (by decide) ?_
          refine hw_goto X (tgt := 48) dd_Co_value_44 rfl ?_
          exact rt dd_Co_value_48 vc
      · replace vc := vc.2 hc
        refine hw_iconst X (v := -1) dd_Co_value_26 (by decide) ?_
        exact rt dd_Co_value_27 vc
end
section
variable {p : Program} {l : Launch} {e : Env} {R : Room} {s : State} {m : MethodId} {args : Array Value} {below : List Frame} {meth : Method} {c : Code} {Q : State → Prop} {g : hw_G} {A : Nat → Prop} {k n : Nat} {w : hw_H}
def vc_Co_count_0 (l : Launch) (g : hw_G) (R : Room) (K : Nat → Nat → Nat → List (Option Value) → List Value → hw_H → Prop) (PR : Nat → Nat → Int32 → hw_H → Prop) (k n : Nat) (a0 : Nat) (w : hw_H) : Prop := ∃ b_1 : Nat, hw_g w a0 4 3 (.ref b_1) ∧ (hw_o w b_1 "ProofCourt$Formula" ∧ hw_ci l g R k n ym_Fo_satisfying (mw_Fo_satisfying) 3 [.ref b_1] w (fun (k3 n4 : Nat) (x_5 : Int32) (w2 : hw_H) => PR k3 n4 x_5 w2))
set_option maxHeartbeats 4000000 in
set_option maxRecDepth 100000 in
theorem sg_Co_count_0 (X : hw_X p m c cb_Co_count 1 s args (mw_Co_count) "ProofCourt" g A) {K : Nat → Nat → Nat → List (Option Value) → List Value → hw_H → Prop} {PR : Nat → Nat → Int32 → hw_H → Prop} (hK : ∀ (k n pc : Nat) (lv : List (Option Value)) (st : List Value) (w : hw_H), K k n pc lv st w → hw_J p l e R s m args below meth c Q 1 g A k n pc lv st w) (rt : ∀ {k n pc : Nat} {lv : List (Option Value)} {x : Int32} {w : hw_H}, decode cb_Co_count pc = .ok (.ireturn, 1) → PR k n x w → hw_J p l e R s m args below meth c Q 1 g A k n pc lv [.int x] w) {a0 : Nat} (vc : vc_Co_count_0 l g R K PR k n a0 w) : hw_J p l e R s m args below meth c Q 1 g A k n 0 [some (.ref a0)] [] w := by
  unfold vc_Co_count_0 at vc
  refine hw_aload_n X (Or.inr ⟨_, rfl⟩) dd_Co_count_0 rfl ?_
  obtain ⟨b_1, h9, vc⟩ := vc
  refine hw_get X (fe_Co_57 X) h9 dd_Co_count_1 ?_
  obtain ⟨hob, rm9, po9, hM9, hf9, hc9, vc⟩ := vc
  refine hw_callVi X (As := []) (ye_Co_87 X) hM9 rfl hf9 hc9 hob (Nat.le_of_ble_eq_true rfl) rfl dd_Co_count_4 (fun x_5 w2 hp => ?_)
  replace vc := vc x_5 w2 hp
  exact rt dd_Co_count_7 vc
end
section
variable {p : Program} {l : Launch} {e : Env} {R : Room} {s : State} {m : MethodId} {args : Array Value} {below : List Frame} {meth : Method} {c : Code} {Q : State → Prop} {g : hw_G} {A : Nat → Prop} {k n : Nat} {w : hw_H}
def vc_Co_forced_0 (l : Launch) (g : hw_G) (R : Room) (K : Nat → Nat → Nat → List (Option Value) → List Value → hw_H → Prop) (PR : Nat → Nat → Int32 → hw_H → Prop) (k n : Nat) (a0 : Nat) (x1 : Int32) (x2 : Int32) (w : hw_H) : Prop := hw_o w a0 "ProofCourt" ∧ hw_ci l g R k n ym_Co_isLiteralOrNone (mw_Co_isLiteralOrNone) 2 [.ref a0, .int x1] w (fun (k2 n3 : Nat) (x_4 : Int32) (w1 : hw_H) => ((x_4 = 0) → (PR k2 n3 (-2 : Int32) w1)) ∧ ((¬ x_4 = 0) → (hw_o w1 a0 "ProofCourt" ∧ hw_ci l g R k2 n3 ym_Co_isLiteralOrNone (mw_Co_isLiteralOrNone) 2 [.ref a0, .int x2] w1 (fun (k6 n7 : Nat) (x_8 : Int32) (w5 : hw_H) => ((x_8 = 0) → (PR k6 n7 (-2 : Int32) w5)) ∧ ((¬ x_8 = 0) → (((x1 = 0) → (∃ b_9 : Nat, hw_g w5 a0 4 3 (.ref b_9) ∧ (hw_ci l g R k6 n7 ym_Co_bit (mw_Co_bit) 1 [.int x1] w5 (fun (k11 n12 : Nat) (x_13 : Int32) (w10 : hw_H) => hw_ci l g R k11 n12 ym_Co_bit (mw_Co_bit) 1 [.int x2] w10 (fun (k15 n16 : Nat) (x_17 : Int32) (w14 : hw_H) => hw_o w14 b_9 "ProofCourt$Formula" ∧ hw_ci l g R k15 n16 ym_Fo_forcedBy (mw_Fo_forcedBy) 7 [.ref b_9, .int (x_13 ||| x_17)] w14 (fun (k19 n20 : Nat) (x_21 : Int32) (w18 : hw_H) => ((¬ x_21 = (-1 : Int32)) → (hw_ci l g R k19 n20 ym_In_bitCount (mw_In_bitCount) 1 [.int x_21] w18 (fun (k23 n24 : Nat) (x_25 : Int32) (w22 : hw_H) => PR k23 n24 x_25 w22))) ∧ ((x_21 = (-1 : Int32)) → (PR k19 n20 (-1 : Int32) w18)))))))) ∧ ((¬ x1 = 0) → (((¬ x1 = (-x2)) → (∃ b_26 : Nat, hw_g w5 a0 4 3 (.ref b_26) ∧ (hw_ci l g R k6 n7 ym_Co_bit (mw_Co_bit) 1 [.int x1] w5 (fun (k28 n29 : Nat) (x_30 : Int32) (w27 : hw_H) => hw_ci l g R k28 n29 ym_Co_bit (mw_Co_bit) 1 [.int x2] w27 (fun (k32 n33 : Nat) (x_34 : Int32) (w31 : hw_H) => hw_o w31 b_26 "ProofCourt$Formula" ∧ hw_ci l g R k32 n33 ym_Fo_forcedBy (mw_Fo_forcedBy) 7 [.ref b_26, .int (x_30 ||| x_34)] w31 (fun (k36 n37 : Nat) (x_38 : Int32) (w35 : hw_H) => ((¬ x_38 = (-1 : Int32)) → (hw_ci l g R k36 n37 ym_In_bitCount (mw_In_bitCount) 1 [.int x_38] w35 (fun (k40 n41 : Nat) (x_42 : Int32) (w39 : hw_H) => PR k40 n41 x_42 w39))) ∧ ((x_38 = (-1 : Int32)) → (PR k36 n37 (-1 : Int32) w35)))))))) ∧ ((x1 = (-x2)) → (PR k6 n7 (-2 : Int32) w5))))))))))
set_option maxHeartbeats 4000000 in
set_option maxRecDepth 100000 in
theorem sg_Co_forced_0 (X : hw_X p m c cb_Co_forced 4 s args (mw_Co_forced) "ProofCourt" g A) {K : Nat → Nat → Nat → List (Option Value) → List Value → hw_H → Prop} {PR : Nat → Nat → Int32 → hw_H → Prop} (hK : ∀ (k n pc : Nat) (lv : List (Option Value)) (st : List Value) (w : hw_H), K k n pc lv st w → hw_J p l e R s m args below meth c Q 4 g A k n pc lv st w) (rt : ∀ {k n pc : Nat} {lv : List (Option Value)} {x : Int32} {w : hw_H}, decode cb_Co_forced pc = .ok (.ireturn, 1) → PR k n x w → hw_J p l e R s m args below meth c Q 4 g A k n pc lv [.int x] w) {a0 : Nat} {x1 : Int32} {x2 : Int32} (vc : vc_Co_forced_0 l g R K PR k n a0 x1 x2 w) : hw_J p l e R s m args below meth c Q 4 g A k n 0 [some (.ref a0), some (.int x1), some (.int x2), none] [] w := by
  unfold vc_Co_forced_0 at vc
  refine hw_aload_n X (Or.inr ⟨_, rfl⟩) dd_Co_forced_0 rfl ?_
  refine hw_iload_n X dd_Co_forced_1 rfl ?_
  obtain ⟨hob, rm9, po9, hM9, hf9, hc9, vc⟩ := vc
  refine hw_callVi X (As := [.int x1]) (ye_Co_91 X) hM9 rfl hf9 hc9 hob (Nat.le_of_ble_eq_true rfl) rfl dd_Co_forced_2 (fun x_4 w1 hp => ?_)
  replace vc := vc x_4 w1 hp
  refine hw_if_eq X (tgt := 26) dd_Co_forced_5 rfl (fun hc => ?_) (fun hc => ?_)
  · replace vc := vc.1 hc
    refine hw_bipush X (v := -2) dd_Co_forced_26 (by decide) ?_
    exact rt dd_Co_forced_28 vc
  · replace vc := vc.2 hc
    refine hw_aload_n X (Or.inr ⟨_, rfl⟩) dd_Co_forced_8 rfl ?_
    refine hw_iload_n X dd_Co_forced_9 rfl ?_
    obtain ⟨hob, rm9, po9, hM9, hf9, hc9, vc⟩ := vc
    refine hw_callVi X (As := [.int x2]) (ye_Co_91 X) hM9 rfl hf9 hc9 hob (Nat.le_of_ble_eq_true rfl) rfl dd_Co_forced_10 (fun x_8 w5 hp => ?_)
    replace vc := vc x_8 w5 hp
    refine hw_if_eq X (tgt := 26) dd_Co_forced_13 rfl (fun hc => ?_) (fun hc => ?_)
    · replace vc := vc.1 hc
      refine hw_bipush X (v := -2) dd_Co_forced_26 (by decide) ?_
      exact rt dd_Co_forced_28 vc
    · replace vc := vc.2 hc
      refine hw_iload_n X dd_Co_forced_16 rfl ?_
      refine hw_if_eq X (tgt := 29) dd_Co_forced_17 rfl (fun hc => ?_) (fun hc => ?_)
      · replace vc := vc.1 hc
        refine hw_aload_n X (Or.inr ⟨_, rfl⟩) dd_Co_forced_29 rfl ?_
        obtain ⟨b_9, h9, vc⟩ := vc
        refine hw_get X (fe_Co_57 X) h9 dd_Co_forced_30 ?_
        refine hw_iload_n X dd_Co_forced_33 rfl ?_
        obtain ⟨rm9, po9, hM9, hf9, hc9, vc⟩ := vc
        refine hw_callSi X (As := [.int x1]) (ye_Co_83 X) hM9 rfl hf9 hc9 (Nat.le_of_ble_eq_true rfl) rfl dd_Co_forced_34 (fun x_13 w10 hp => ?_)
        replace vc := vc x_13 w10 hp
        refine hw_iload_n X dd_Co_forced_37 rfl ?_
        obtain ⟨rm9, po9, hM9, hf9, hc9, vc⟩ := vc
        refine hw_callSi X (As := [.int x2]) (ye_Co_83 X) hM9 rfl hf9 hc9 (Nat.le_of_ble_eq_true rfl) rfl dd_Co_forced_38 (fun x_17 w14 hp => ?_)
        replace vc := vc x_17 w14 hp
        refine hw_ior X dd_Co_forced_41 ?_
        obtain ⟨hob, rm9, po9, hM9, hf9, hc9, vc⟩ := vc
        refine hw_callVi X (As := [.int (x_13 ||| x_17)]) (ye_Co_95 X) hM9 rfl hf9 hc9 hob (Nat.le_of_ble_eq_true rfl) rfl dd_Co_forced_42 (fun x_21 w18 hp => ?_)
        replace vc := vc x_21 w18 hp
        refine hw_istore_n X dd_Co_forced_45 (by decide) rfl ?_
        refine hw_iload_n X dd_Co_forced_46 rfl ?_
        refine hw_iconst X (v := -1) dd_Co_forced_47 (by decide) ?_
        refine hw_icmp_ne X (tgt := 55) dd_Co_forced_48 rfl (fun hc => ?_) (fun hc => ?_)
        · replace vc := vc.1 hc
          refine hw_iload_n X dd_Co_forced_55 rfl ?_
          obtain ⟨rm9, po9, hM9, hf9, hc9, vc⟩ := vc
          refine hw_callSi X (As := [.int x_21]) (ye_Co_98 X) hM9 rfl hf9 hc9 (Nat.le_of_ble_eq_true rfl) rfl dd_Co_forced_56 (fun x_25 w22 hp => ?_)
          replace vc := vc x_25 w22 hp
          exact rt dd_Co_forced_59 vc
        · replace vc := vc.2 hc
          refine hw_iconst X (v := -1) dd_Co_forced_51 (by decide) ?_
          refine hw_goto X (tgt := 59) dd_Co_forced_52 rfl ?_
          exact rt dd_Co_forced_59 vc
      · replace vc := vc.2 hc
        refine hw_iload_n X dd_Co_forced_20 rfl ?_
        refine hw_iload_n X dd_Co_forced_21 rfl ?_
        refine hw_ineg X dd_Co_forced_22 ?_
        refine hw_icmp_ne X (tgt := 29) dd_Co_forced_23 rfl (fun hc => ?_) (fun hc => ?_)
        · replace vc := vc.1 hc
          refine hw_aload_n X (Or.inr ⟨_, rfl⟩) dd_Co_forced_29 rfl ?_
          obtain ⟨b_26, h9, vc⟩ := vc
          refine hw_get X (fe_Co_57 X) h9 dd_Co_forced_30 ?_
          refine hw_iload_n X dd_Co_forced_33 rfl ?_
          obtain ⟨rm9, po9, hM9, hf9, hc9, vc⟩ := vc
          refine hw_callSi X (As := [.int x1]) (ye_Co_83 X) hM9 rfl hf9 hc9 (Nat.le_of_ble_eq_true rfl) rfl dd_Co_forced_34 (fun x_30 w27 hp => ?_)
          replace vc := vc x_30 w27 hp
          refine hw_iload_n X dd_Co_forced_37 rfl ?_
          obtain ⟨rm9, po9, hM9, hf9, hc9, vc⟩ := vc
          refine hw_callSi X (As := [.int x2]) (ye_Co_83 X) hM9 rfl hf9 hc9 (Nat.le_of_ble_eq_true rfl) rfl dd_Co_forced_38 (fun x_34 w31 hp => ?_)
          replace vc := vc x_34 w31 hp
          refine hw_ior X dd_Co_forced_41 ?_
          obtain ⟨hob, rm9, po9, hM9, hf9, hc9, vc⟩ := vc
          refine hw_callVi X (As := [.int (x_30 ||| x_34)]) (ye_Co_95 X) hM9 rfl hf9 hc9 hob (Nat.le_of_ble_eq_true rfl) rfl dd_Co_forced_42 (fun x_38 w35 hp => ?_)
          replace vc := vc x_38 w35 hp
          refine hw_istore_n X dd_Co_forced_45 (by decide) rfl ?_
          refine hw_iload_n X dd_Co_forced_46 rfl ?_
          refine hw_iconst X (v := -1) dd_Co_forced_47 (by decide) ?_
          refine hw_icmp_ne X (tgt := 55) dd_Co_forced_48 rfl (fun hc => ?_) (fun hc => ?_)
          · replace vc := vc.1 hc
            refine hw_iload_n X dd_Co_forced_55 rfl ?_
            obtain ⟨rm9, po9, hM9, hf9, hc9, vc⟩ := vc
            refine hw_callSi X (As := [.int x_38]) (ye_Co_98 X) hM9 rfl hf9 hc9 (Nat.le_of_ble_eq_true rfl) rfl dd_Co_forced_56 (fun x_42 w39 hp => ?_)
            replace vc := vc x_42 w39 hp
            exact rt dd_Co_forced_59 vc
          · replace vc := vc.2 hc
            refine hw_iconst X (v := -1) dd_Co_forced_51 (by decide) ?_
            refine hw_goto X (tgt := 59) dd_Co_forced_52 rfl ?_
            exact rt dd_Co_forced_59 vc
        · replace vc := vc.2 hc
          refine hw_bipush X (v := -2) dd_Co_forced_26 (by decide) ?_
          exact rt dd_Co_forced_28 vc
end
section
variable {p : Program} {l : Launch} {e : Env} {R : Room} {s : State} {m : MethodId} {args : Array Value} {below : List Frame} {meth : Method} {c : Code} {Q : State → Prop} {g : hw_G} {A : Nat → Prop} {k n : Nat} {w : hw_H}
def vc_Co_line_0 (l : Launch) (g : hw_G) (R : Room) (K : Nat → Nat → Nat → List (Option Value) → List Value → hw_H → Prop) (PR : Nat → Nat → Int32 → hw_H → Prop) (k n : Nat) (a0 : Nat) (w : hw_H) : Prop := ∃ b_1 : Nat, hw_g w a0 4 0 (.ref b_1) ∧ (∃ b_2 : Nat, hw_g w a0 4 3 (.ref b_2) ∧ (∃ x_3 : Int32, hw_g w b_2 3 0 (.int x_3) ∧ (hw_cq l g R k n ym_Li_lineIn (mw_Li_lineIn) 4 [.ref b_1, .int x_3] w (fun (k5 n6 : Nat) (o_7 : Option Nat) (w4 : hw_H) => ∃ b_8 : Nat, hw_g w4 a0 4 0 (.ref b_8) ∧ (∃ x_9 : Int32, hw_g w4 b_8 0 3 (.int x_9) ∧ (∃ b_10 : Nat, hw_g w4 a0 4 0 (.ref b_10) ∧ (hw_o w4 b_10 "ProofCourt$Text" ∧ hw_cv l g R k5 n6 ym_Te_clear (mw_Te_clear) 1 [.ref b_10] w4 (fun (k12 n13 : Nat) (w11 : hw_H) => (o_7 = none → (PR k12 n13 ((-1 : Int32) - x_9) w11)) ∧ (∀ q14 : Nat, o_7 = some q14 → (∃ o_15 : Option Nat, hw_g w11 q14 6 1 (va_rf o_15) ∧ ((o_15 = none → (∃ b_17 : Nat, hw_g w11 a0 4 1 (.ref b_17) ∧ (hw_o w11 b_17 "ProofCourt$Proof" ∧ hw_ci l g R k12 n13 ym_Pr_delete (mw_Pr_delete) 4 [.ref b_17, .ref q14] w11 (fun (k19 n20 : Nat) (x_21 : Int32) (w18 : hw_H) => PR k19 n20 x_21 w18)))) ∧ (∀ q16 : Nat, o_15 = some q16 → (∃ b_22 : Nat, hw_g w11 a0 4 1 (.ref b_22) ∧ (hw_o w11 b_22 "ProofCourt$Proof" ∧ hw_ci l g R k12 n13 ym_Pr_add (mw_Pr_add) 3 [.ref b_22, .ref q14] w11 (fun (k24 n25 : Nat) (x_26 : Int32) (w23 : hw_H) => PR k24 n25 x_26 w23)))))))))))))))
set_option maxHeartbeats 4000000 in
set_option maxRecDepth 100000 in
theorem sg_Co_line_0 (X : hw_X p m c cb_Co_line 3 s args (mw_Co_line) "ProofCourt" g A) {K : Nat → Nat → Nat → List (Option Value) → List Value → hw_H → Prop} {PR : Nat → Nat → Int32 → hw_H → Prop} (hK : ∀ (k n pc : Nat) (lv : List (Option Value)) (st : List Value) (w : hw_H), K k n pc lv st w → hw_J p l e R s m args below meth c Q 3 g A k n pc lv st w) (rt : ∀ {k n pc : Nat} {lv : List (Option Value)} {x : Int32} {w : hw_H}, decode cb_Co_line pc = .ok (.ireturn, 1) → PR k n x w → hw_J p l e R s m args below meth c Q 3 g A k n pc lv [.int x] w) {a0 : Nat} (vc : vc_Co_line_0 l g R K PR k n a0 w) : hw_J p l e R s m args below meth c Q 3 g A k n 0 [some (.ref a0), none, none] [] w := by
  unfold vc_Co_line_0 at vc
  refine hw_aload_n X (Or.inr ⟨_, rfl⟩) dd_Co_line_0 rfl ?_
  obtain ⟨b_1, h9, vc⟩ := vc
  refine hw_get X (fe_Co_12 X) h9 dd_Co_line_1 ?_
  refine hw_aload_n X (Or.inr ⟨_, rfl⟩) dd_Co_line_4 rfl ?_
  obtain ⟨b_2, h9, vc⟩ := vc
  refine hw_get X (fe_Co_57 X) h9 dd_Co_line_5 ?_
  obtain ⟨x_3, h9, vc⟩ := vc
  refine hw_get X (fe_Co_61 X) h9 dd_Co_line_8 ?_
  obtain ⟨rm9, po9, hM9, hf9, hc9, vc⟩ := vc
  refine hw_callSq X (As := [.ref b_1, .int x_3]) (ye_Co_103 X) hM9 rfl hf9 hc9 (Nat.le_of_ble_eq_true rfl) rfl dd_Co_line_11 (fun o_7 w4 hp => ?_)
  replace vc := vc o_7 w4 hp
  refine hw_astore_n X (va_rf_or _) dd_Co_line_14 (by decide) rfl ?_
  refine hw_aload_n X (Or.inr ⟨_, rfl⟩) dd_Co_line_15 rfl ?_
  obtain ⟨b_8, h9, vc⟩ := vc
  refine hw_get X (fe_Co_12 X) h9 dd_Co_line_16 ?_
  obtain ⟨x_9, h9, vc⟩ := vc
  refine hw_get X (fe_Co_47 X) h9 dd_Co_line_19 ?_
  refine hw_istore_n X dd_Co_line_22 (by decide) rfl ?_
  refine hw_aload_n X (Or.inr ⟨_, rfl⟩) dd_Co_line_23 rfl ?_
  obtain ⟨b_10, h9, vc⟩ := vc
  refine hw_get X (fe_Co_12 X) h9 dd_Co_line_24 ?_
  obtain ⟨hob, rm9, po9, hM9, hf9, hc9, vc⟩ := vc
  refine hw_callVv X (As := []) (ye_Co_51 X) hM9 rfl hf9 hc9 hob (Nat.le_of_ble_eq_true rfl) rfl dd_Co_line_27 (fun w11 hp => ?_)
  replace vc := vc w11 hp
  refine hw_aload_n X (va_rf_or _) dd_Co_line_30 rfl ?_
  refine hw_ifnonnull X (tgt := 38) dd_Co_line_31 rfl (fun q14 hc => ?_) (fun hc => ?_)
  · replace vc := vc.2 q14 hc
    subst hc
    refine hw_aload_n X (Or.inr ⟨_, rfl⟩) dd_Co_line_38 rfl ?_
    obtain ⟨o_15, h9, vc⟩ := vc
    refine hw_get X (fe_Co_109 X) h9 dd_Co_line_39 ?_
    refine hw_ifnonnull X (tgt := 56) dd_Co_line_42 rfl (fun q16 hc => ?_) (fun hc => ?_)
    · replace vc := vc.2 q16 hc
      subst hc
      refine hw_aload_n X (Or.inr ⟨_, rfl⟩) dd_Co_line_56 rfl ?_
      obtain ⟨b_22, h9, vc⟩ := vc
      refine hw_get X (fe_Co_19 X) h9 dd_Co_line_57 ?_
      refine hw_aload_n X (Or.inr ⟨_, rfl⟩) dd_Co_line_60 rfl ?_
      obtain ⟨hob, rm9, po9, hM9, hf9, hc9, vc⟩ := vc
      refine hw_callVi X (As := [.ref q14]) (ye_Co_117 X) hM9 rfl hf9 hc9 hob (Nat.le_of_ble_eq_true rfl) rfl dd_Co_line_61 (fun x_26 w23 hp => ?_)
      replace vc := vc x_26 w23 hp
      exact rt dd_Co_line_64 vc
    · replace vc := vc.1 hc
      refine hw_aload_n X (Or.inr ⟨_, rfl⟩) dd_Co_line_45 rfl ?_
      obtain ⟨b_17, h9, vc⟩ := vc
      refine hw_get X (fe_Co_19 X) h9 dd_Co_line_46 ?_
      refine hw_aload_n X (Or.inr ⟨_, rfl⟩) dd_Co_line_49 rfl ?_
      obtain ⟨hob, rm9, po9, hM9, hf9, hc9, vc⟩ := vc
      refine hw_callVi X (As := [.ref q14]) (ye_Co_113 X) hM9 rfl hf9 hc9 hob (Nat.le_of_ble_eq_true rfl) rfl dd_Co_line_50 (fun x_21 w18 hp => ?_)
      replace vc := vc x_21 w18 hp
      refine hw_goto X (tgt := 64) dd_Co_line_53 rfl ?_
      exact rt dd_Co_line_64 vc
  · replace vc := vc.1 hc
    refine hw_iconst X (v := -1) dd_Co_line_34 (by decide) ?_
    refine hw_iload_n X dd_Co_line_35 rfl ?_
    refine hw_isub X dd_Co_line_36 ?_
    exact rt dd_Co_line_37 vc
end
section
variable {p : Program} {l : Launch} {e : Env} {R : Room} {s : State} {m : MethodId} {args : Array Value} {below : List Frame} {meth : Method} {c : Code} {Q : State → Prop} {g : hw_G} {A : Nat → Prop} {k n : Nat} {w : hw_H}
def vc_Co_refuted_0 (l : Launch) (g : hw_G) (R : Room) (K : Nat → Nat → Nat → List (Option Value) → List Value → hw_H → Prop) (PR : Nat → Nat → Int32 → hw_H → Prop) (k n : Nat) (a0 : Nat) (w : hw_H) : Prop := ∃ b_1 : Nat, hw_g w a0 4 1 (.ref b_1) ∧ (∃ x_2 : Int32, hw_g w b_1 1 3 (.int x_2) ∧ (PR k n x_2 w))
set_option maxHeartbeats 4000000 in
set_option maxRecDepth 100000 in
theorem sg_Co_refuted_0 (X : hw_X p m c cb_Co_refuted 1 s args (mw_Co_refuted) "ProofCourt" g A) {K : Nat → Nat → Nat → List (Option Value) → List Value → hw_H → Prop} {PR : Nat → Nat → Int32 → hw_H → Prop} (hK : ∀ (k n pc : Nat) (lv : List (Option Value)) (st : List Value) (w : hw_H), K k n pc lv st w → hw_J p l e R s m args below meth c Q 1 g A k n pc lv st w) (rt : ∀ {k n pc : Nat} {lv : List (Option Value)} {x : Int32} {w : hw_H}, decode cb_Co_refuted pc = .ok (.ireturn, 1) → PR k n x w → hw_J p l e R s m args below meth c Q 1 g A k n pc lv [.int x] w) {a0 : Nat} (vc : vc_Co_refuted_0 l g R K PR k n a0 w) : hw_J p l e R s m args below meth c Q 1 g A k n 0 [some (.ref a0)] [] w := by
  unfold vc_Co_refuted_0 at vc
  refine hw_aload_n X (Or.inr ⟨_, rfl⟩) dd_Co_refuted_0 rfl ?_
  obtain ⟨b_1, h9, vc⟩ := vc
  refine hw_get X (fe_Co_19 X) h9 dd_Co_refuted_1 ?_
  obtain ⟨x_2, h9, vc⟩ := vc
  refine hw_get X (fe_Co_120 X) h9 dd_Co_refuted_4 ?_
  exact rt dd_Co_refuted_7 vc
end
section
variable {p : Program} {l : Launch} {e : Env} {R : Room} {s : State} {m : MethodId} {args : Array Value} {below : List Frame} {meth : Method} {c : Code} {Q : State → Prop} {g : hw_G} {A : Nat → Prop} {k n : Nat} {w : hw_H}
def vc_Co_proves_0 (l : Launch) (g : hw_G) (R : Room) (K : Nat → Nat → Nat → List (Option Value) → List Value → hw_H → Prop) (PR : Nat → Nat → Int32 → hw_H → Prop) (k n : Nat) (a0 : Nat) (w : hw_H) : Prop := ∃ b_1 : Nat, hw_g w a0 4 2 (.ref b_1) ∧ (hw_o w b_1 "ProofCourt$Search" ∧ hw_ci l g R k n ym_Se_finds (mw_Se_finds) 3 [.ref b_1] w (fun (k3 n4 : Nat) (x_5 : Int32) (w2 : hw_H) => ((¬ x_5 = 0) → (PR k3 n4 (0 : Int32) w2)) ∧ ((x_5 = 0) → (∃ b_6 : Nat, hw_g w2 a0 4 2 (.ref b_6) ∧ (∃ x_7 : Int32, hw_g w2 b_6 2 5 (.int x_7) ∧ (((x_7 = 0) → (PR k3 n4 (0 : Int32) w2)) ∧ ((¬ x_7 = 0) → (∃ b_8 : Nat, hw_g w2 a0 4 2 (.ref b_8) ∧ (∃ x_9 : Int32, hw_g w2 b_8 2 6 (.int x_9) ∧ (((x_9 = 0) → (PR k3 n4 (0 : Int32) w2)) ∧ ((¬ x_9 = 0) → (PR k3 n4 (1 : Int32) w2))))))))))))
set_option maxHeartbeats 4000000 in
set_option maxRecDepth 100000 in
theorem sg_Co_proves_0 (X : hw_X p m c cb_Co_proves 1 s args (mw_Co_proves) "ProofCourt" g A) {K : Nat → Nat → Nat → List (Option Value) → List Value → hw_H → Prop} {PR : Nat → Nat → Int32 → hw_H → Prop} (hK : ∀ (k n pc : Nat) (lv : List (Option Value)) (st : List Value) (w : hw_H), K k n pc lv st w → hw_J p l e R s m args below meth c Q 1 g A k n pc lv st w) (rt : ∀ {k n pc : Nat} {lv : List (Option Value)} {x : Int32} {w : hw_H}, decode cb_Co_proves pc = .ok (.ireturn, 1) → PR k n x w → hw_J p l e R s m args below meth c Q 1 g A k n pc lv [.int x] w) {a0 : Nat} (vc : vc_Co_proves_0 l g R K PR k n a0 w) : hw_J p l e R s m args below meth c Q 1 g A k n 0 [some (.ref a0)] [] w := by
  unfold vc_Co_proves_0 at vc
  refine hw_aload_n X (Or.inr ⟨_, rfl⟩) dd_Co_proves_0 rfl ?_
  obtain ⟨b_1, h9, vc⟩ := vc
  refine hw_get X (fe_Co_26 X) h9 dd_Co_proves_1 ?_
  obtain ⟨hob, rm9, po9, hM9, hf9, hc9, vc⟩ := vc
  refine hw_callVi X (As := []) (ye_Co_76 X) hM9 rfl hf9 hc9 hob (Nat.le_of_ble_eq_true rfl) rfl dd_Co_proves_4 (fun x_5 w2 hp => ?_)
  replace vc := vc x_5 w2 hp
  refine hw_if_ne X (tgt := 34) dd_Co_proves_7 rfl (fun hc => ?_) (fun hc => ?_)
  · replace vc := vc.1 hc
    refine hw_iconst X (v := 0) dd_Co_proves_34 (by decide) ?_
    exact rt dd_Co_proves_35 vc
  · replace vc := vc.2 hc
    refine hw_aload_n X (Or.inr ⟨_, rfl⟩) dd_Co_proves_10 rfl ?_
    obtain ⟨b_6, h9, vc⟩ := vc
    refine hw_get X (fe_Co_26 X) h9 dd_Co_proves_11 ?_
    obtain ⟨x_7, h9, vc⟩ := vc
    refine hw_get X (fe_Co_124 X) h9 dd_Co_proves_14 ?_
    refine hw_if_eq X (tgt := 34) dd_Co_proves_17 rfl (fun hc => ?_) (fun hc => ?_)
    · replace vc := vc.1 hc
      refine hw_iconst X (v := 0) dd_Co_proves_34 (by decide) ?_
      exact rt dd_Co_proves_35 vc
    · replace vc := vc.2 hc
      refine hw_aload_n X (Or.inr ⟨_, rfl⟩) dd_Co_proves_20 rfl ?_
      obtain ⟨b_8, h9, vc⟩ := vc
      refine hw_get X (fe_Co_26 X) h9 dd_Co_proves_21 ?_
      obtain ⟨x_9, h9, vc⟩ := vc
      refine hw_get X (fe_Co_127 X) h9 dd_Co_proves_24 ?_
      refine hw_if_eq X (tgt := 34) dd_Co_proves_27 rfl (fun hc => ?_) (fun hc => ?_)
      · replace vc := vc.1 hc
        refine hw_iconst X (v := 0) dd_Co_proves_34 (by decide) ?_
        exact rt dd_Co_proves_35 vc
      · replace vc := vc.2 hc
        refine hw_iconst X (v := 1) dd_Co_proves_30 (by decide) ?_
        refine hw_goto X (tgt := 35) dd_Co_proves_31 rfl ?_
        exact rt dd_Co_proves_35 vc
end
section
variable {p : Program} {l : Launch} {e : Env} {R : Room} {s : State} {m : MethodId} {args : Array Value} {below : List Frame} {meth : Method} {c : Code} {Q : State → Prop} {g : hw_G} {A : Nat → Prop} {k n : Nat} {w : hw_H}
def vc_Co_take_0 (l : Launch) (g : hw_G) (R : Room) (K : Nat → Nat → Nat → List (Option Value) → List Value → hw_H → Prop) (PR : Nat → Nat → hw_H → Prop) (k n : Nat) (a0 : Nat) (a1 : Nat) (w : hw_H) : Prop := ∃ w1 : hw_H, hw_p w a0 4 3 (.ref a1) w1 ∧ (∃ b_2 : Nat, hw_g w1 a0 4 1 (.ref b_2) ∧ (hw_o w1 b_2 "ProofCourt$Proof" ∧ hw_cv l g R k n ym_Pr_begin (mw_Pr_begin) 3 [.ref b_2, .ref a1] w1 (fun (k4 n5 : Nat) (w3 : hw_H) => ∃ b_6 : Nat, hw_g w3 a0 4 2 (.ref b_6) ∧ (hw_o w3 b_6 "ProofCourt$Search" ∧ hw_cv l g R k4 n5 ym_Se_begin (mw_Se_begin) 3 [.ref b_6, .ref a1] w3 (fun (k8 n9 : Nat) (w7 : hw_H) => PR k8 n9 w7)))))
set_option maxHeartbeats 4000000 in
set_option maxRecDepth 100000 in
theorem sg_Co_take_0 (X : hw_X p m c cb_Co_take 2 s args (mw_Co_take) "ProofCourt" g A) {K : Nat → Nat → Nat → List (Option Value) → List Value → hw_H → Prop} {PR : Nat → Nat → hw_H → Prop} (hK : ∀ (k n pc : Nat) (lv : List (Option Value)) (st : List Value) (w : hw_H), K k n pc lv st w → hw_J p l e R s m args below meth c Q 2 g A k n pc lv st w) (rt : ∀ {k n pc : Nat} {lv : List (Option Value)} {w : hw_H}, decode cb_Co_take pc = .ok (.return_, 1) → PR k n w → hw_J p l e R s m args below meth c Q 2 g A k n pc lv [] w) {a0 : Nat} {a1 : Nat} (vc : vc_Co_take_0 l g R K PR k n a0 a1 w) : hw_J p l e R s m args below meth c Q 2 g A k n 0 [some (.ref a0), some (.ref a1)] [] w := by
  unfold vc_Co_take_0 at vc
  refine hw_aload_n X (Or.inr ⟨_, rfl⟩) dd_Co_take_0 rfl ?_
  refine hw_aload_n X (Or.inr ⟨_, rfl⟩) dd_Co_take_1 rfl ?_
  obtain ⟨w1, h9, vc⟩ := vc
  refine hw_put X (fp_Co_57 X) rfl rfl h9 dd_Co_take_2 ?_
  refine hw_aload_n X (Or.inr ⟨_, rfl⟩) dd_Co_take_5 rfl ?_
  obtain ⟨b_2, h9, vc⟩ := vc
  refine hw_get X (fe_Co_19 X) h9 dd_Co_take_6 ?_
  refine hw_aload_n X (Or.inr ⟨_, rfl⟩) dd_Co_take_9 rfl ?_
  obtain ⟨hob, rm9, po9, hM9, hf9, hc9, vc⟩ := vc
  refine hw_callVv X (As := [.ref a1]) (ye_Co_130 X) hM9 rfl hf9 hc9 hob (Nat.le_of_ble_eq_true rfl) rfl dd_Co_take_10 (fun w3 hp => ?_)
  replace vc := vc w3 hp
  refine hw_aload_n X (Or.inr ⟨_, rfl⟩) dd_Co_take_13 rfl ?_
  obtain ⟨b_6, h9, vc⟩ := vc
  refine hw_get X (fe_Co_26 X) h9 dd_Co_take_14 ?_
  refine hw_aload_n X (Or.inr ⟨_, rfl⟩) dd_Co_take_17 rfl ?_
  obtain ⟨hob, rm9, po9, hM9, hf9, hc9, vc⟩ := vc
  refine hw_callVv X (As := [.ref a1]) (ye_Co_133 X) hM9 rfl hf9 hc9 hob (Nat.le_of_ble_eq_true rfl) rfl dd_Co_take_18 (fun w7 hp => ?_)
  replace vc := vc w7 hp
  exact rt dd_Co_take_21 vc
end
section
variable {p : Program} {l : Launch} {e : Env} {R : Room} {s : State} {m : MethodId} {args : Array Value} {below : List Frame} {meth : Method} {c : Code} {Q : State → Prop} {g : hw_G} {A : Nat → Prop} {k n : Nat} {w : hw_H}
def vc_Co_isLiteralOrNone_0 (l : Launch) (g : hw_G) (R : Room) (K : Nat → Nat → Nat → List (Option Value) → List Value → hw_H → Prop) (PR : Nat → Nat → Int32 → hw_H → Prop) (k n : Nat) (a0 : Nat) (x1 : Int32) (w : hw_H) : Prop := ∃ b_1 : Nat, hw_g w a0 4 3 (.ref b_1) ∧ (∃ x_2 : Int32, hw_g w b_1 3 0 (.int x_2) ∧ (((x1 < (-x_2)) → (PR k n (0 : Int32) w)) ∧ ((¬ x1 < (-x_2)) → (∃ b_3 : Nat, hw_g w a0 4 3 (.ref b_3) ∧ (∃ x_4 : Int32, hw_g w b_3 3 0 (.int x_4) ∧ (((x_4 < x1) → (PR k n (0 : Int32) w)) ∧ ((¬ x_4 < x1) → (PR k n (1 : Int32) w))))))))
set_option maxHeartbeats 4000000 in
set_option maxRecDepth 100000 in
theorem sg_Co_isLiteralOrNone_0 (X : hw_X p m c cb_Co_isLiteralOrNone 2 s args (mw_Co_isLiteralOrNone) "ProofCourt" g A) {K : Nat → Nat → Nat → List (Option Value) → List Value → hw_H → Prop} {PR : Nat → Nat → Int32 → hw_H → Prop} (hK : ∀ (k n pc : Nat) (lv : List (Option Value)) (st : List Value) (w : hw_H), K k n pc lv st w → hw_J p l e R s m args below meth c Q 2 g A k n pc lv st w) (rt : ∀ {k n pc : Nat} {lv : List (Option Value)} {x : Int32} {w : hw_H}, decode cb_Co_isLiteralOrNone pc = .ok (.ireturn, 1) → PR k n x w → hw_J p l e R s m args below meth c Q 2 g A k n pc lv [.int x] w) {a0 : Nat} {x1 : Int32} (vc : vc_Co_isLiteralOrNone_0 l g R K PR k n a0 x1 w) : hw_J p l e R s m args below meth c Q 2 g A k n 0 [some (.ref a0), some (.int x1)] [] w := by
  unfold vc_Co_isLiteralOrNone_0 at vc
  refine hw_aload_n X (Or.inr ⟨_, rfl⟩) dd_Co_isLiteralOrNone_0 rfl ?_
  obtain ⟨b_1, h9, vc⟩ := vc
  refine hw_get X (fe_Co_57 X) h9 dd_Co_isLiteralOrNone_1 ?_
  obtain ⟨x_2, h9, vc⟩ := vc
  refine hw_get X (fe_Co_61 X) h9 dd_Co_isLiteralOrNone_4 ?_
  refine hw_ineg X dd_Co_isLiteralOrNone_7 ?_
  refine hw_iload_n X dd_Co_isLiteralOrNone_8 rfl ?_
  refine hw_icmp_gt X (tgt := 27) dd_Co_isLiteralOrNone_9 rfl (fun hc => ?_) (fun hc => ?_)
  · replace vc := vc.1 hc
    refine hw_iconst X (v := 0) dd_Co_isLiteralOrNone_27 (by decide) ?_
    exact rt dd_Co_isLiteralOrNone_28 vc
  · replace vc := vc.2 hc
    refine hw_iload_n X dd_Co_isLiteralOrNone_12 rfl ?_
    refine hw_aload_n X (Or.inr ⟨_, rfl⟩) dd_Co_isLiteralOrNone_13 rfl ?_
    obtain ⟨b_3, h9, vc⟩ := vc
    refine hw_get X (fe_Co_57 X) h9 dd_Co_isLiteralOrNone_14 ?_
    obtain ⟨x_4, h9, vc⟩ := vc
    refine hw_get X (fe_Co_61 X) h9 dd_Co_isLiteralOrNone_17 ?_
    refine hw_icmp_gt X (tgt := 27) dd_Co_isLiteralOrNone_20 rfl (fun hc => ?_) (fun hc => ?_)
    · replace vc := vc.1 hc
      refine hw_iconst X (v := 0) dd_Co_isLiteralOrNone_27 (by decide) ?_
      exact rt dd_Co_isLiteralOrNone_28 vc
    · replace vc := vc.2 hc
      refine hw_iconst X (v := 1) dd_Co_isLiteralOrNone_23 (by decide) ?_
      refine hw_goto X (tgt := 28) dd_Co_isLiteralOrNone_24 rfl ?_
      exact rt dd_Co_isLiteralOrNone_28 vc
end
section
variable {p : Program} {l : Launch} {e : Env} {R : Room} {s : State} {m : MethodId} {args : Array Value} {below : List Frame} {meth : Method} {c : Code} {Q : State → Prop} {g : hw_G} {A : Nat → Prop} {k n : Nat} {w : hw_H}
def vc_Co_bit_0 (l : Launch) (g : hw_G) (R : Room) (K : Nat → Nat → Nat → List (Option Value) → List Value → hw_H → Prop) (PR : Nat → Nat → Int32 → hw_H → Prop) (k n : Nat) (x0 : Int32) (w : hw_H) : Prop := ((¬ x0 = 0) → (((x0 ≤ 0) → (PR k n ((1 : Int32) <<< (((9 : Int32) - x0) &&& 31)) w)) ∧ ((¬ x0 ≤ 0) → (PR k n ((1 : Int32) <<< ((x0 - (1 : Int32)) &&& 31)) w)))) ∧ ((x0 = 0) → (PR k n (0 : Int32) w))
set_option maxHeartbeats 4000000 in
set_option maxRecDepth 100000 in
theorem sg_Co_bit_0 (X : hw_X p m c cb_Co_bit 1 s args (mw_Co_bit) "ProofCourt" g A) {K : Nat → Nat → Nat → List (Option Value) → List Value → hw_H → Prop} {PR : Nat → Nat → Int32 → hw_H → Prop} (hK : ∀ (k n pc : Nat) (lv : List (Option Value)) (st : List Value) (w : hw_H), K k n pc lv st w → hw_J p l e R s m args below meth c Q 1 g A k n pc lv st w) (rt : ∀ {k n pc : Nat} {lv : List (Option Value)} {x : Int32} {w : hw_H}, decode cb_Co_bit pc = .ok (.ireturn, 1) → PR k n x w → hw_J p l e R s m args below meth c Q 1 g A k n pc lv [.int x] w) {x0 : Int32} (vc : vc_Co_bit_0 l g R K PR k n x0 w) : hw_J p l e R s m args below meth c Q 1 g A k n 0 [some (.int x0)] [] w := by
  unfold vc_Co_bit_0 at vc
  refine hw_iload_n X dd_Co_bit_0 rfl ?_
  refine hw_if_ne X (tgt := 6) dd_Co_bit_1 rfl (fun hc => ?_) (fun hc => ?_)
  · replace vc := vc.1 hc
    refine hw_iload_n X dd_Co_bit_6 rfl ?_
    refine hw_if_le X (tgt := 18) dd_Co_bit_7 rfl (fun hc => ?_) (fun hc => ?_)
    · replace vc := vc.1 hc
      refine hw_iconst X (v := 1) dd_Co_bit_18 (by decide) ?_
      refine hw_bipush X (v := 9) dd_Co_bit_19 (by decide) ?_
      refine hw_iload_n X dd_Co_bit_21 rfl ?_
      refine hw_isub X dd_Co_bit_22 ?_
      refine hw_ishl X dd_Co_bit_23 ?_
      exact rt dd_Co_bit_24 vc
    · replace vc := vc.2 hc
      refine hw_iconst X (v := 1) dd_Co_bit_10 (by decide) ?_
      refine hw_iload_n X dd_Co_bit_11 rfl ?_
      refine hw_iconst X (v := 1) dd_Co_bit_12 (by decide) ?_
      refine hw_isub X dd_Co_bit_13 ?_
      refine hw_ishl X dd_Co_bit_14 ?_
      refine hw_goto X (tgt := 24) dd_Co_bit_15 rfl ?_
      exact rt dd_Co_bit_24 vc
  · replace vc := vc.2 hc
    refine hw_iconst X (v := 0) dd_Co_bit_4 (by decide) ?_
    exact rt dd_Co_bit_5 vc
end
section
variable {p : Program} {l : Launch} {e : Env} {R : Room} {s : State} {m : MethodId} {args : Array Value} {below : List Frame} {meth : Method} {c : Code} {Q : State → Prop} {g : hw_G} {A : Nat → Prop} {k n : Nat} {w : hw_H}
def vc_Co_opposites_0 (l : Launch) (g : hw_G) (R : Room) (K : Nat → Nat → Nat → List (Option Value) → List Value → hw_H → Prop) (PR : Nat → Nat → Int32 → hw_H → Prop) (k n : Nat) (x0 : Int32) (w : hw_H) : Prop := PR k n (((x0 <<< ((10 : Int32) &&& 31)) ||| (x0 >>> ((10 : Int32) &&& 31))) &&& (1048575 : Int32)) w
set_option maxHeartbeats 4000000 in
set_option maxRecDepth 100000 in
theorem sg_Co_opposites_0 (X : hw_X p m c cb_Co_opposites 1 s args (mw_Co_opposites) "ProofCourt" g A) {K : Nat → Nat → Nat → List (Option Value) → List Value → hw_H → Prop} {PR : Nat → Nat → Int32 → hw_H → Prop} (hK : ∀ (k n pc : Nat) (lv : List (Option Value)) (st : List Value) (w : hw_H), K k n pc lv st w → hw_J p l e R s m args below meth c Q 1 g A k n pc lv st w) (rt : ∀ {k n pc : Nat} {lv : List (Option Value)} {x : Int32} {w : hw_H}, decode cb_Co_opposites pc = .ok (.ireturn, 1) → PR k n x w → hw_J p l e R s m args below meth c Q 1 g A k n pc lv [.int x] w) {x0 : Int32} (vc : vc_Co_opposites_0 l g R K PR k n x0 w) : hw_J p l e R s m args below meth c Q 1 g A k n 0 [some (.int x0)] [] w := by
  unfold vc_Co_opposites_0 at vc
  refine hw_iload_n X dd_Co_opposites_0 rfl ?_
  refine hw_bipush X (v := 10) dd_Co_opposites_1 (by decide) ?_
  refine hw_ishl X dd_Co_opposites_3 ?_
  refine hw_iload_n X dd_Co_opposites_4 rfl ?_
  refine hw_bipush X (v := 10) dd_Co_opposites_5 (by decide) ?_
  refine hw_ishr X dd_Co_opposites_7 ?_
  refine hw_ior X dd_Co_opposites_8 ?_
  refine hw_ldc X (kc_Co_134 X) dd_Co_opposites_9 ?_
  refine hw_iand X dd_Co_opposites_11 ?_
  exact rt dd_Co_opposites_12 vc
end
section
variable {p : Program} {l : Launch} {e : Env} {R : Room} {s : State} {m : MethodId} {args : Array Value} {below : List Frame} {meth : Method} {c : Code} {Q : State → Prop} {g : hw_G} {A : Nat → Prop} {k n : Nat} {w : hw_H}
def vc_Co_follow_0 (l : Launch) (g : hw_G) (R : Room) (K : Nat → Nat → Nat → List (Option Value) → List Value → hw_H → Prop) (PR : Nat → Nat → Int32 → hw_H → Prop) (k n : Nat) (x0 : Int32) (x1 : Int32) (w : hw_H) : Prop := hw_ci l g R k n ym_Co_opposites (mw_Co_opposites) 1 [.int x1] w (fun (k2 n3 : Nat) (x_4 : Int32) (w1 : hw_H) => ∀ y5 : Int32, y5 = (x0 &&& (x_4 ^^^ (-1 : Int32))) → (((¬ y5 = 0) → (hw_ci l g R k2 n3 ym_In_bitCount (mw_In_bitCount) 1 [.int y5] w1 (fun (k7 n8 : Nat) (x_9 : Int32) (w6 : hw_H) => ((¬ x_9 = (1 : Int32)) → (PR k7 n8 (-2 : Int32) w6)) ∧ ((x_9 = (1 : Int32)) → (((¬ (y5 &&& x1) = 0) → (PR k7 n8 (-2 : Int32) w6)) ∧ (((y5 &&& x1) = 0) → (PR k7 n8 (x1 ||| y5) w6))))))) ∧ ((y5 = 0) → (PR k2 n3 (-1 : Int32) w1))))
set_option maxHeartbeats 4000000 in
set_option maxRecDepth 100000 in
theorem sg_Co_follow_0 (X : hw_X p m c cb_Co_follow 3 s args (mw_Co_follow) "ProofCourt" g A) {K : Nat → Nat → Nat → List (Option Value) → List Value → hw_H → Prop} {PR : Nat → Nat → Int32 → hw_H → Prop} (hK : ∀ (k n pc : Nat) (lv : List (Option Value)) (st : List Value) (w : hw_H), K k n pc lv st w → hw_J p l e R s m args below meth c Q 3 g A k n pc lv st w) (rt : ∀ {k n pc : Nat} {lv : List (Option Value)} {x : Int32} {w : hw_H}, decode cb_Co_follow pc = .ok (.ireturn, 1) → PR k n x w → hw_J p l e R s m args below meth c Q 3 g A k n pc lv [.int x] w) {x0 : Int32} {x1 : Int32} (vc : vc_Co_follow_0 l g R K PR k n x0 x1 w) : hw_J p l e R s m args below meth c Q 3 g A k n 0 [some (.int x0), some (.int x1), none] [] w := by
  unfold vc_Co_follow_0 at vc
  refine hw_iload_n X dd_Co_follow_0 rfl ?_
  refine hw_iload_n X dd_Co_follow_1 rfl ?_
  obtain ⟨rm9, po9, hM9, hf9, hc9, vc⟩ := vc
  refine hw_callSi X (As := [.int x1]) (ye_Co_135 X) hM9 rfl hf9 hc9 (Nat.le_of_ble_eq_true rfl) rfl dd_Co_follow_2 (fun x_4 w1 hp => ?_)
  replace vc := vc x_4 w1 hp
  refine hw_iconst X (v := -1) dd_Co_follow_5 (by decide) ?_
  refine hw_ixor X dd_Co_follow_6 ?_
  refine hw_iand X dd_Co_follow_7 ?_
  refine hw_top (fun y5 ey5 => ?_)
  replace vc := vc y5 ey5
  refine hw_istore_n X dd_Co_follow_8 (by decide) rfl ?_
  refine hw_iload_n X dd_Co_follow_9 rfl ?_
  refine hw_if_ne X (tgt := 15) dd_Co_follow_10 rfl (fun hc => ?_) (fun hc => ?_)
  · replace vc := vc.1 hc
    refine hw_iload_n X dd_Co_follow_15 rfl ?_
    obtain ⟨rm9, po9, hM9, hf9, hc9, vc⟩ := vc
    refine hw_callSi X (As := [.int y5]) (ye_Co_98 X) hM9 rfl hf9 hc9 (Nat.le_of_ble_eq_true rfl) rfl dd_Co_follow_16 (fun x_9 w6 hp => ?_)
    replace vc := vc x_9 w6 hp
    refine hw_iconst X (v := 1) dd_Co_follow_19 (by decide) ?_
    refine hw_icmp_ne X (tgt := 35) dd_Co_follow_20 rfl (fun hc => ?_) (fun hc => ?_)
    · replace vc := vc.1 hc
      refine hw_bipush X (v := -2) dd_Co_follow_35 (by decide) ?_
      exact rt dd_Co_follow_37 vc
    · replace vc := vc.2 hc
      refine hw_iload_n X dd_Co_follow_23 rfl ?_
      refine hw_iload_n X dd_Co_follow_24 rfl ?_
      refine hw_iand X dd_Co_follow_25 ?_
      refine hw_if_ne X (tgt := 35) dd_Co_follow_26 rfl (fun hc => ?_) (fun hc => ?_)
      · replace vc := vc.1 hc
        refine hw_bipush X (v := -2) dd_Co_follow_35 (by decide) ?_
        exact rt dd_Co_follow_37 vc
      · replace vc := vc.2 hc
        refine hw_iload_n X dd_Co_follow_29 rfl ?_
        refine hw_iload_n X dd_Co_follow_30 rfl ?_
        refine hw_ior X dd_Co_follow_31 ?_
        refine hw_goto X (tgt := 37) dd_Co_follow_32 rfl ?_
        exact rt dd_Co_follow_37 vc
  · replace vc := vc.2 hc
    refine hw_iconst X (v := -1) dd_Co_follow_13 (by decide) ?_
    exact rt dd_Co_follow_14 vc
end
section
variable {p : Program} {l : Launch} {e : Env} {R : Room} {s : State} {m : MethodId} {args : Array Value} {below : List Frame} {meth : Method} {c : Code} {Q : State → Prop} {g : hw_G} {A : Nat → Prop} {k n : Nat} {w : hw_H}
def vc_Cl_init_0 (l : Launch) (g : hw_G) (R : Room) (K : Nat → Nat → Nat → List (Option Value) → List Value → hw_H → Prop) (PR : Nat → Nat → hw_H → Prop) (k n : Nat) (a0 : Nat) (x1 : Int32) (w : hw_H) : Prop := (k + 1 ≤ R.cells ∧ n + 6 ≤ R.slots) ∧ ∀ (q1 : Nat) (w2 : hw_H), w q1 = none → w2 = va_up w q1 (some (.inl (g.2.1 0, 6, .inl (fun _ => 0)))) → (∃ w3 : hw_H, hw_p w2 a0 5 1 (.ref q1) w3 ∧ (∃ w4 : hw_H, hw_p w3 a0 5 0 (.int x1) w4 ∧ (PR (k + 1) (n + 6) w4)))
set_option maxHeartbeats 4000000 in
set_option maxRecDepth 100000 in
theorem sg_Cl_init_0 (X : hw_X p m c cb_Cl_init 2 s args (mw_Cl_init) "ProofCourt$Clause" g A) (hin : meth.name = "<init>") (hRm : 1 ≤ R.frames ∧ 20 ≤ R.locals) {K : Nat → Nat → Nat → List (Option Value) → List Value → hw_H → Prop} {PR : Nat → Nat → hw_H → Prop} (hK : ∀ (k n pc : Nat) (lv : List (Option Value)) (st : List Value) (w : hw_H), K k n pc lv st w → hw_J p l e R s m args below meth c Q 2 g A k n pc lv st w) (rt : ∀ {k n pc : Nat} {lv : List (Option Value)} {w : hw_H}, decode cb_Cl_init pc = .ok (.return_, 1) → PR k n w → hw_J p l e R s m args below meth c Q 2 g A k n pc lv [] w) {a0 : Nat} {x1 : Int32} (vc : vc_Cl_init_0 l g R K PR k n a0 x1 w) : hw_J p l e R s m args below meth c Q 2 g A k n 0 [some (.ref a0), some (.int x1)] [] w := by
  unfold vc_Cl_init_0 at vc
  refine hw_aload_n X (Or.inr ⟨_, rfl⟩) dd_Cl_init_0 rfl ?_
  refine hw_objInit X (oi_Cl_3 X) (oj_Cl X) (ok_Cl X) (hw_oi1 hRm) (hw_oi2 hRm) (by decide) dd_Cl_init_1 ?_
  refine hw_aload_n X (Or.inr ⟨_, rfl⟩) dd_Cl_init_4 rfl ?_
  refine hw_bipush X (v := 6) dd_Cl_init_5 (by decide) ?_
  refine hw_newa X (t := 0) (N := 6) (ty := .int) (ac_Cl_int X) rfl rfl (fun _ z => by cases z) rfl (by decide) (by decide) (by decide) vc.1.1 vc.1.2 dd_Cl_init_7 (fun q1 hq => ?_)
  replace vc := vc.2 q1 _ hq rfl
  obtain ⟨w3, h9, vc⟩ := vc
  refine hw_putF X (ff_Cl_9 X) hin rfl rfl h9 dd_Cl_init_9 ?_
  refine hw_aload_n X (Or.inr ⟨_, rfl⟩) dd_Cl_init_12 rfl ?_
  refine hw_iload_n X dd_Cl_init_13 rfl ?_
  obtain ⟨w4, h9, vc⟩ := vc
  refine hw_putF X (ff_Cl_15 X) hin rfl rfl h9 dd_Cl_init_14 ?_
  exact rt dd_Cl_init_17 vc
end
section
variable {p : Program} {l : Launch} {e : Env} {R : Room} {s : State} {m : MethodId} {args : Array Value} {below : List Frame} {meth : Method} {c : Code} {Q : State → Prop} {g : hw_G} {A : Nat → Prop} {k n : Nat} {w : hw_H}
def vc_Cl_clauseIn_0 (l : Launch) (g : hw_G) (R : Room) (K : Nat → Nat → Nat → List (Option Value) → List Value → hw_H → Prop) (PR : Nat → Nat → Option Nat → hw_H → Prop) (k n : Nat) (a0 : Nat) (x1 : Int32) (x2 : Int32) (w : hw_H) : Prop := (k + 1 ≤ R.cells ∧ n + 4 ≤ R.slots) ∧ ∀ (q1 : Nat) (w2 : hw_H), w q1 = none → w2 = va_up w q1 (some (.inr (5, [.int 0, .null, .int 0, .int 0]))) → (hw_cv l g R (k + 1) (n + 4) ym_Cl_init (mw_Cl_init) 2 [.ref q1, .int x1] w2 (fun (k4 n5 : Nat) (w3 : hw_H) => K k4 n5 12 [some (.ref a0), some (.int x1), some (.int x2), some (.ref q1), some (.int (0 : Int32)), none] [] w3))
set_option maxHeartbeats 4000000 in
set_option maxRecDepth 100000 in
theorem sg_Cl_clauseIn_0 (X : hw_X p m c cb_Cl_clauseIn 6 s args (mw_Cl_clauseIn) "ProofCourt$Clause" g A) {K : Nat → Nat → Nat → List (Option Value) → List Value → hw_H → Prop} {PR : Nat → Nat → Option Nat → hw_H → Prop} (hK : ∀ (k n pc : Nat) (lv : List (Option Value)) (st : List Value) (w : hw_H), K k n pc lv st w → hw_J p l e R s m args below meth c Q 6 g A k n pc lv st w) (rt : ∀ {k n pc : Nat} {lv : List (Option Value)} {o : Option Nat} {w : hw_H}, decode cb_Cl_clauseIn pc = .ok (.areturn, 1) → PR k n o w → hw_J p l e R s m args below meth c Q 6 g A k n pc lv [va_rf o] w) {a0 : Nat} {x1 : Int32} {x2 : Int32} (vc : vc_Cl_clauseIn_0 l g R K PR k n a0 x1 x2 w) : hw_J p l e R s m args below meth c Q 6 g A k n 0 [some (.ref a0), some (.int x1), some (.int x2), none, none, none] [] w := by
  unfold vc_Cl_clauseIn_0 at vc
  refine hw_new X (ne_Cl_10 X) vc.1.1 vc.1.2 dd_Cl_clauseIn_0 (fun q1 hq => ?_)
  replace vc := vc.2 q1 _ hq rfl
  refine hw_dup X rfl dd_Cl_clauseIn_3 ?_
  refine hw_iload_n X dd_Cl_clauseIn_4 rfl ?_
  obtain ⟨rm9, po9, hM9, hf9, hc9, vc⟩ := vc
  refine hw_callIv X (As := [.int x1]) (ye_Cl_19 X) hM9 rfl hf9 hc9 (Nat.le_of_ble_eq_true rfl) rfl dd_Cl_clauseIn_5 (fun w3 hp => ?_)
  replace vc := vc w3 hp
  refine hw_astore_n X (Or.inr ⟨_, rfl⟩) dd_Cl_clauseIn_8 (by decide) rfl ?_
  refine hw_iconst X (v := 0) dd_Cl_clauseIn_9 (by decide) ?_
  refine hw_istore X dd_Cl_clauseIn_10 (by decide) rfl ?_
  exact hK _ _ _ _ _ _ vc
def vc_Cl_clauseIn_12 (l : Launch) (g : hw_G) (R : Room) (K : Nat → Nat → Nat → List (Option Value) → List Value → hw_H → Prop) (PR : Nat → Nat → Option Nat → hw_H → Prop) (k n : Nat) (a0 : Nat) (x1 : Int32) (x2 : Int32) (a3 : Nat) (x4 : Int32) (w : hw_H) : Prop := (((160 : Int32) ≤ x4) → (PR k n (none : Option Nat) w)) ∧ ((¬ (160 : Int32) ≤ x4) → (hw_o w a0 "ProofCourt$Text" ∧ hw_ci l g R k n ym_Te_isNumber (mw_Te_isNumber) 7 [.ref a0, .int (-x2), .int x2] w (fun (k2 n3 : Nat) (x_4 : Int32) (w1 : hw_H) => ((x_4 = 0) → (PR k2 n3 (none : Option Nat) w1)) ∧ ((¬ x_4 = 0) → (∃ x_5 : Int32, hw_g w1 a0 0 5 (.int x_5) ∧ (((x_5 = 0) → (hw_o w1 a0 "ProofCourt$Text" ∧ hw_cv l g R k2 n3 ym_Te_advance (mw_Te_advance) 2 [.ref a0] w1 (fun (k7 n8 : Nat) (w6 : hw_H) => ((¬ x_5 = 0) → (K k7 n8 12 [some (.ref a0), some (.int x1), some (.int x2), some (.ref a3), some (.int (x4 + 1)), none] [] w6)) ∧ ((x_5 = 0) → (PR k7 n8 (some a3) w6))))) ∧ ((¬ x_5 = 0) → (hw_o w1 a3 "ProofCourt$Clause" ∧ hw_ci l g R k2 n3 ym_Cl_accept (mw_Cl_accept) 2 [.ref a3, .int x_5] w1 (fun (k10 n11 : Nat) (x_12 : Int32) (w9 : hw_H) => ((¬ x_12 = 0) → (hw_o w9 a0 "ProofCourt$Text" ∧ hw_cv l g R k10 n11 ym_Te_advance (mw_Te_advance) 2 [.ref a0] w9 (fun (k14 n15 : Nat) (w13 : hw_H) => ((¬ x_5 = 0) → (K k14 n15 12 [some (.ref a0), some (.int x1), some (.int x2), some (.ref a3), some (.int (x4 + 1)), none] [] w13)) ∧ ((x_5 = 0) → (PR k14 n15 (some a3) w13))))) ∧ ((x_12 = 0) → (PR k10 n11 (none : Option Nat) w9)))))))))))
set_option maxHeartbeats 4000000 in
set_option maxRecDepth 100000 in
theorem sg_Cl_clauseIn_12 (X : hw_X p m c cb_Cl_clauseIn 6 s args (mw_Cl_clauseIn) "ProofCourt$Clause" g A) {K : Nat → Nat → Nat → List (Option Value) → List Value → hw_H → Prop} {PR : Nat → Nat → Option Nat → hw_H → Prop} (hK : ∀ (k n pc : Nat) (lv : List (Option Value)) (st : List Value) (w : hw_H), K k n pc lv st w → hw_J p l e R s m args below meth c Q 6 g A k n pc lv st w) (rt : ∀ {k n pc : Nat} {lv : List (Option Value)} {o : Option Nat} {w : hw_H}, decode cb_Cl_clauseIn pc = .ok (.areturn, 1) → PR k n o w → hw_J p l e R s m args below meth c Q 6 g A k n pc lv [va_rf o] w) {a0 : Nat} {x1 : Int32} {x2 : Int32} {a3 : Nat} {x4 : Int32} (vc : vc_Cl_clauseIn_12 l g R K PR k n a0 x1 x2 a3 x4 w) : hw_J p l e R s m args below meth c Q 6 g A k n 12 [some (.ref a0), some (.int x1), some (.int x2), some (.ref a3), some (.int x4), none] [] w := by
  unfold vc_Cl_clauseIn_12 at vc
  refine hw_iload X dd_Cl_clauseIn_12 rfl ?_
  refine hw_sipush X (v := 160) dd_Cl_clauseIn_14 (by decide) ?_
  refine hw_icmp_ge X (tgt := 69) dd_Cl_clauseIn_17 rfl (fun hc => ?_) (fun hc => ?_)
  · replace vc := vc.1 hc
    refine hw_null X dd_Cl_clauseIn_69 ?_
    exact rt (o := (none : Option Nat)) dd_Cl_clauseIn_70 vc
  · replace vc := vc.2 hc
    refine hw_aload_n X (Or.inr ⟨_, rfl⟩) dd_Cl_clauseIn_20 rfl ?_
    refine hw_iload_n X dd_Cl_clauseIn_21 rfl ?_
    refine hw_ineg X dd_Cl_clauseIn_22 ?_
    refine hw_iload_n X dd_Cl_clauseIn_23 rfl ?_
    obtain ⟨hob, rm9, po9, hM9, hf9, hc9, vc⟩ := vc
    refine hw_callVi X (As := [.int (-x2), .int x2]) (ye_Cl_22 X) hM9 rfl hf9 hc9 hob (Nat.le_of_ble_eq_true rfl) rfl dd_Cl_clauseIn_24 (fun x_4 w1 hp => ?_)
    replace vc := vc x_4 w1 hp
    refine hw_if_eq X (tgt := 69) dd_Cl_clauseIn_27 rfl (fun hc => ?_) (fun hc => ?_)
    · replace vc := vc.1 hc
      refine hw_null X dd_Cl_clauseIn_69 ?_
      exact rt (o := (none : Option Nat)) dd_Cl_clauseIn_70 vc
    · replace vc := vc.2 hc
      refine hw_aload_n X (Or.inr ⟨_, rfl⟩) dd_Cl_clauseIn_30 rfl ?_
      obtain ⟨x_5, h9, vc⟩ := vc
      refine hw_get X (fe_Cl_28 X) h9 dd_Cl_clauseIn_31 ?_
      refine hw_istore X dd_Cl_clauseIn_34 (by decide) rfl ?_
      refine hw_iload X dd_Cl_clauseIn_36 rfl ?_
      refine hw_if_eq X (tgt := 52) dd_Cl_clauseIn_38 rfl (fun hc => ?_) (fun hc => ?_)
      · replace vc := vc.1 hc
        refine hw_aload_n X (Or.inr ⟨_, rfl⟩) dd_Cl_clauseIn_52 rfl ?_
        obtain ⟨hob, rm9, po9, hM9, hf9, hc9, vc⟩ := vc
        refine hw_callVv X (As := []) (ye_Cl_33 X) hM9 rfl hf9 hc9 hob (Nat.le_of_ble_eq_true rfl) rfl dd_Cl_clauseIn_53 (fun w6 hp => ?_)
        replace vc := vc w6 hp
        refine hw_iload X dd_Cl_clauseIn_56 rfl ?_
        refine hw_if_ne X (tgt := 63) dd_Cl_clauseIn_58 rfl (fun hc => ?_) (fun hc => ?_)
        · replace vc := vc.1 hc
          refine hw_iinc X (v := (x4 + 1)) dd_Cl_clauseIn_63 rfl rfl (by decide) rfl ?_
          refine hw_goto X (tgt := 12) dd_Cl_clauseIn_66 rfl ?_
          exact hw_drop (lv9 := [some (.ref a0), some (.int x1), some (.int x2), some (.ref a3), some (.int (x4 + 1)), none]) (⟨rfl, ⟨rfl, ⟨rfl, ⟨rfl, ⟨rfl, ⟨trivial, trivial⟩⟩⟩⟩⟩⟩) (hK _ _ _ _ _ _ vc)
        · replace vc := vc.2 hc
          refine hw_aload_n X (Or.inr ⟨_, rfl⟩) dd_Cl_clauseIn_61 rfl ?_
          exact rt (o := (some a3)) dd_Cl_clauseIn_62 vc
      · replace vc := vc.2 hc
        refine hw_aload_n X (Or.inr ⟨_, rfl⟩) dd_Cl_clauseIn_41 rfl ?_
        refine hw_iload X dd_Cl_clauseIn_42 rfl ?_
        obtain ⟨hob, rm9, po9, hM9, hf9, hc9, vc⟩ := vc
        refine hw_callVi X (As := [.int x_5]) (ye_Cl_29 X) hM9 rfl hf9 hc9 hob (Nat.le_of_ble_eq_true rfl) rfl dd_Cl_clauseIn_44 (fun x_12 w9 hp => ?_)
        replace vc := vc x_12 w9 hp
        refine hw_if_ne X (tgt := 52) dd_Cl_clauseIn_47 rfl (fun hc => ?_) (fun hc => ?_)
        · replace vc := vc.1 hc
          refine hw_aload_n X (Or.inr ⟨_, rfl⟩) dd_Cl_clauseIn_52 rfl ?_
          obtain ⟨hob, rm9, po9, hM9, hf9, hc9, vc⟩ := vc
          refine hw_callVv X (As := []) (ye_Cl_33 X) hM9 rfl hf9 hc9 hob (Nat.le_of_ble_eq_true rfl) rfl dd_Cl_clauseIn_53 (fun w13 hp => ?_)
          replace vc := vc w13 hp
          refine hw_iload X dd_Cl_clauseIn_56 rfl ?_
          refine hw_if_ne X (tgt := 63) dd_Cl_clauseIn_58 rfl (fun hc => ?_) (fun hc => ?_)
          · replace vc := vc.1 hc
            refine hw_iinc X (v := (x4 + 1)) dd_Cl_clauseIn_63 rfl rfl (by decide) rfl ?_
            refine hw_goto X (tgt := 12) dd_Cl_clauseIn_66 rfl ?_
            exact hw_drop (lv9 := [some (.ref a0), some (.int x1), some (.int x2), some (.ref a3), some (.int (x4 + 1)), none]) (⟨rfl, ⟨rfl, ⟨rfl, ⟨rfl, ⟨rfl, ⟨trivial, trivial⟩⟩⟩⟩⟩⟩) (hK _ _ _ _ _ _ vc)
          · replace vc := vc.2 hc
            refine hw_aload_n X (Or.inr ⟨_, rfl⟩) dd_Cl_clauseIn_61 rfl ?_
            exact rt (o := (some a3)) dd_Cl_clauseIn_62 vc
        · replace vc := vc.2 hc
          refine hw_null X dd_Cl_clauseIn_50 ?_
          exact rt (o := (none : Option Nat)) dd_Cl_clauseIn_51 vc
end
section
variable {p : Program} {l : Launch} {e : Env} {R : Room} {s : State} {m : MethodId} {args : Array Value} {below : List Frame} {meth : Method} {c : Code} {Q : State → Prop} {g : hw_G} {A : Nat → Prop} {k n : Nat} {w : hw_H}
def vc_Cl_accept_0 (l : Launch) (g : hw_G) (R : Room) (K : Nat → Nat → Nat → List (Option Value) → List Value → hw_H → Prop) (PR : Nat → Nat → Int32 → hw_H → Prop) (k n : Nat) (a0 : Nat) (x1 : Int32) (w : hw_H) : Prop := ∃ x_1 : Int32, hw_g w a0 5 3 (.int x_1) ∧ (hw_ci l g R k n ym_Co_bit (mw_Co_bit) 1 [.int x1] w (fun (k3 n4 : Nat) (x_5 : Int32) (w2 : hw_H) => (((x_1 &&& x_5) = 0) → (∃ x_6 : Int32, hw_g w2 a0 5 2 (.int x_6) ∧ (((x_6 < (6 : Int32)) → (∃ b_7 : Nat, hw_g w2 a0 5 1 (.ref b_7) ∧ (∃ x_8 : Int32, hw_g w2 a0 5 2 (.int x_8) ∧ (∃ w9 : hw_H, hw_as g 0 w2 b_7 x_8 x1 w9 ∧ (∃ x_10 : Int32, hw_g w9 a0 5 2 (.int x_10) ∧ (∃ w11 : hw_H, hw_p w9 a0 5 2 (.int (x_10 + (1 : Int32))) w11 ∧ (∃ x_12 : Int32, hw_g w11 a0 5 3 (.int x_12) ∧ (hw_ci l g R k3 n4 ym_Co_bit (mw_Co_bit) 1 [.int x1] w11 (fun (k14 n15 : Nat) (x_16 : Int32) (w13 : hw_H) => ∃ w17 : hw_H, hw_p w13 a0 5 3 (.int (x_12 ||| x_16)) w17 ∧ (PR k14 n15 (1 : Int32) w17)))))))))) ∧ ((¬ x_6 < (6 : Int32)) → (PR k3 n4 (0 : Int32) w2))))) ∧ ((¬ (x_1 &&& x_5) = 0) → (PR k3 n4 (1 : Int32) w2))))
set_option maxHeartbeats 4000000 in
set_option maxRecDepth 100000 in
theorem sg_Cl_accept_0 (X : hw_X p m c cb_Cl_accept 2 s args (mw_Cl_accept) "ProofCourt$Clause" g A) {K : Nat → Nat → Nat → List (Option Value) → List Value → hw_H → Prop} {PR : Nat → Nat → Int32 → hw_H → Prop} (hK : ∀ (k n pc : Nat) (lv : List (Option Value)) (st : List Value) (w : hw_H), K k n pc lv st w → hw_J p l e R s m args below meth c Q 2 g A k n pc lv st w) (rt : ∀ {k n pc : Nat} {lv : List (Option Value)} {x : Int32} {w : hw_H}, decode cb_Cl_accept pc = .ok (.ireturn, 1) → PR k n x w → hw_J p l e R s m args below meth c Q 2 g A k n pc lv [.int x] w) {a0 : Nat} {x1 : Int32} (vc : vc_Cl_accept_0 l g R K PR k n a0 x1 w) : hw_J p l e R s m args below meth c Q 2 g A k n 0 [some (.ref a0), some (.int x1)] [] w := by
  unfold vc_Cl_accept_0 at vc
  refine hw_aload_n X (Or.inr ⟨_, rfl⟩) dd_Cl_accept_0 rfl ?_
  obtain ⟨x_1, h9, vc⟩ := vc
  refine hw_get X (fe_Cl_36 X) h9 dd_Cl_accept_1 ?_
  refine hw_iload_n X dd_Cl_accept_4 rfl ?_
  obtain ⟨rm9, po9, hM9, hf9, hc9, vc⟩ := vc
  refine hw_callSi X (As := [.int x1]) (ye_Cl_39 X) hM9 rfl hf9 hc9 (Nat.le_of_ble_eq_true rfl) rfl dd_Cl_accept_5 (fun x_5 w2 hp => ?_)
  replace vc := vc x_5 w2 hp
  refine hw_iand X dd_Cl_accept_8 ?_
  refine hw_if_eq X (tgt := 14) dd_Cl_accept_9 rfl (fun hc => ?_) (fun hc => ?_)
  · replace vc := vc.1 hc
    refine hw_aload_n X (Or.inr ⟨_, rfl⟩) dd_Cl_accept_14 rfl ?_
    obtain ⟨x_6, h9, vc⟩ := vc
    refine hw_get X (fe_Cl_43 X) h9 dd_Cl_accept_15 ?_
    refine hw_bipush X (v := 6) dd_Cl_accept_18 (by decide) ?_
    refine hw_icmp_lt X (tgt := 25) dd_Cl_accept_20 rfl (fun hc => ?_) (fun hc => ?_)
    · replace vc := vc.1 hc
      refine hw_aload_n X (Or.inr ⟨_, rfl⟩) dd_Cl_accept_25 rfl ?_
      obtain ⟨b_7, h9, vc⟩ := vc
      refine hw_get X (fe_Cl_9 X) h9 dd_Cl_accept_26 ?_
      refine hw_aload_n X (Or.inr ⟨_, rfl⟩) dd_Cl_accept_29 rfl ?_
      obtain ⟨x_8, h9, vc⟩ := vc
      refine hw_get X (fe_Cl_43 X) h9 dd_Cl_accept_30 ?_
      refine hw_iload_n X dd_Cl_accept_33 rfl ?_
      obtain ⟨w9, h9, vc⟩ := vc
      refine hw_iast X h9 dd_Cl_accept_34 ?_
      refine hw_aload_n X (Or.inr ⟨_, rfl⟩) dd_Cl_accept_35 rfl ?_
      refine hw_dup X rfl dd_Cl_accept_36 ?_
      obtain ⟨x_10, h9, vc⟩ := vc
      refine hw_get X (fe_Cl_43 X) h9 dd_Cl_accept_37 ?_
      refine hw_iconst X (v := 1) dd_Cl_accept_40 (by decide) ?_
      refine hw_iadd X dd_Cl_accept_41 ?_
      obtain ⟨w11, h9, vc⟩ := vc
      refine hw_put X (fp_Cl_43 X) rfl rfl h9 dd_Cl_accept_42 ?_
      refine hw_aload_n X (Or.inr ⟨_, rfl⟩) dd_Cl_accept_45 rfl ?_
      refine hw_dup X rfl dd_Cl_accept_46 ?_
      obtain ⟨x_12, h9, vc⟩ := vc
      refine hw_get X (fe_Cl_36 X) h9 dd_Cl_accept_47 ?_
      refine hw_iload_n X dd_Cl_accept_50 rfl ?_
      obtain ⟨rm9, po9, hM9, hf9, hc9, vc⟩ := vc
      refine hw_callSi X (As := [.int x1]) (ye_Cl_39 X) hM9 rfl hf9 hc9 (Nat.le_of_ble_eq_true rfl) rfl dd_Cl_accept_51 (fun x_16 w13 hp => ?_)
      replace vc := vc x_16 w13 hp
      refine hw_ior X dd_Cl_accept_54 ?_
      obtain ⟨w17, h9, vc⟩ := vc
      refine hw_put X (fp_Cl_36 X) rfl rfl h9 dd_Cl_accept_55 ?_
      refine hw_iconst X (v := 1) dd_Cl_accept_58 (by decide) ?_
      exact rt dd_Cl_accept_59 vc
    · replace vc := vc.2 hc
      refine hw_iconst X (v := 0) dd_Cl_accept_23 (by decide) ?_
      exact rt dd_Cl_accept_24 vc
  · replace vc := vc.2 hc
    refine hw_iconst X (v := 1) dd_Cl_accept_12 (by decide) ?_
    exact rt dd_Cl_accept_13 vc
end
section
variable {p : Program} {l : Launch} {e : Env} {R : Room} {s : State} {m : MethodId} {args : Array Value} {below : List Frame} {meth : Method} {c : Code} {Q : State → Prop} {g : hw_G} {A : Nat → Prop} {k n : Nat} {w : hw_H}
def vc_Fo_init_0 (l : Launch) (g : hw_G) (R : Room) (K : Nat → Nat → Nat → List (Option Value) → List Value → hw_H → Prop) (PR : Nat → Nat → hw_H → Prop) (k n : Nat) (a0 : Nat) (x1 : Int32) (w : hw_H) : Prop := (k + 1 ≤ R.cells ∧ n + 24 ≤ R.slots) ∧ ∀ (q1 : Nat) (w2 : hw_H), w q1 = none → w2 = va_up w q1 (some (.inl (g.2.1 3, 24, .inr (.inr (.inr (.inr (fun _ => none))))))) → (∃ w3 : hw_H, hw_p w2 a0 3 1 (.ref q1) w3 ∧ (∃ w4 : hw_H, hw_p w3 a0 3 3 (.int (-1 : Int32)) w4 ∧ (∃ w5 : hw_H, hw_p w4 a0 3 0 (.int x1) w5 ∧ (PR (k + 1) (n + 24) w5))))
set_option maxHeartbeats 4000000 in
set_option maxRecDepth 100000 in
theorem sg_Fo_init_0 (X : hw_X p m c cb_Fo_init 2 s args (mw_Fo_init) "ProofCourt$Formula" g A) (hin : meth.name = "<init>") (hRm : 1 ≤ R.frames ∧ 20 ≤ R.locals) {K : Nat → Nat → Nat → List (Option Value) → List Value → hw_H → Prop} {PR : Nat → Nat → hw_H → Prop} (hK : ∀ (k n pc : Nat) (lv : List (Option Value)) (st : List Value) (w : hw_H), K k n pc lv st w → hw_J p l e R s m args below meth c Q 2 g A k n pc lv st w) (rt : ∀ {k n pc : Nat} {lv : List (Option Value)} {w : hw_H}, decode cb_Fo_init pc = .ok (.return_, 1) → PR k n w → hw_J p l e R s m args below meth c Q 2 g A k n pc lv [] w) {a0 : Nat} {x1 : Int32} (vc : vc_Fo_init_0 l g R K PR k n a0 x1 w) : hw_J p l e R s m args below meth c Q 2 g A k n 0 [some (.ref a0), some (.int x1)] [] w := by
  unfold vc_Fo_init_0 at vc
  refine hw_aload_n X (Or.inr ⟨_, rfl⟩) dd_Fo_init_0 rfl ?_
  refine hw_objInit X (oi_Fo_3 X) (oj_Fo X) (ok_Fo X) (hw_oi1 hRm) (hw_oi2 hRm) (by decide) dd_Fo_init_1 ?_
  refine hw_aload_n X (Or.inr ⟨_, rfl⟩) dd_Fo_init_4 rfl ?_
  refine hw_bipush X (v := 24) dd_Fo_init_5 (by decide) ?_
  refine hw_newq X (N := 24) (cq_Fo_9 X) (co_Fo X) (by decide) (by decide) (by decide) vc.1.1 vc.1.2 dd_Fo_init_7 (fun q1 hq => ?_)
  replace vc := vc.2 q1 _ hq rfl
  obtain ⟨w3, h9, vc⟩ := vc
  refine hw_putF X (ff_Fo_11 X) hin rfl rfl h9 dd_Fo_init_10 ?_
  refine hw_aload_n X (Or.inr ⟨_, rfl⟩) dd_Fo_init_13 rfl ?_
  refine hw_iconst X (v := -1) dd_Fo_init_14 (by decide) ?_
  obtain ⟨w4, h9, vc⟩ := vc
  refine hw_put X (fp_Fo_17 X) rfl rfl h9 dd_Fo_init_15 ?_
  refine hw_aload_n X (Or.inr ⟨_, rfl⟩) dd_Fo_init_18 rfl ?_
  refine hw_iload_n X dd_Fo_init_19 rfl ?_
  obtain ⟨w5, h9, vc⟩ := vc
  refine hw_putF X (ff_Fo_21 X) hin rfl rfl h9 dd_Fo_init_20 ?_
  exact rt dd_Fo_init_23 vc
end
section
variable {p : Program} {l : Launch} {e : Env} {R : Room} {s : State} {m : MethodId} {args : Array Value} {below : List Frame} {meth : Method} {c : Code} {Q : State → Prop} {g : hw_G} {A : Nat → Prop} {k n : Nat} {w : hw_H}
def vc_Fo_formulaIn_0 (l : Launch) (g : hw_G) (R : Room) (K : Nat → Nat → Nat → List (Option Value) → List Value → hw_H → Prop) (PR : Nat → Nat → Option Nat → hw_H → Prop) (k n : Nat) (a0 : Nat) (w : hw_H) : Prop := hw_o w a0 "ProofCourt$Text" ∧ hw_cv l g R k n ym_Te_rewind (mw_Te_rewind) 2 [.ref a0, .int (1 : Int32)] w (fun (k2 n3 : Nat) (w1 : hw_H) => hw_o w1 a0 "ProofCourt$Text" ∧ hw_ci l g R k2 n3 ym_Te_passesWord (mw_Te_passesWord) 2 [.ref a0, .ref (g.2.2.1 1)] w1 (fun (k5 n6 : Nat) (x_7 : Int32) (w4 : hw_H) => ((x_7 = 0) → (PR k5 n6 (none : Option Nat) w4)) ∧ ((¬ x_7 = 0) → (hw_o w4 a0 "ProofCourt$Text" ∧ hw_ci l g R k5 n6 ym_Te_passesWord (mw_Te_passesWord) 2 [.ref a0, .ref (g.2.2.1 2)] w4 (fun (k9 n10 : Nat) (x_11 : Int32) (w8 : hw_H) => ((x_11 = 0) → (PR k9 n10 (none : Option Nat) w8)) ∧ ((¬ x_11 = 0) → (hw_o w8 a0 "ProofCourt$Text" ∧ hw_ci l g R k9 n10 ym_Te_passesNumber (mw_Te_passesNumber) 3 [.ref a0, .int (1 : Int32), .int (10 : Int32)] w8 (fun (k13 n14 : Nat) (x_15 : Int32) (w12 : hw_H) => ((¬ x_15 = 0) → ((k13 + 1 ≤ R.cells ∧ n14 + 4 ≤ R.slots) ∧ ∀ (q16 : Nat) (w17 : hw_H), w12 q16 = none → w17 = va_up w12 q16 (some (.inr (3, [.int 0, .null, .int 0, .int 0]))) → (∃ x_18 : Int32, hw_g w17 a0 0 5 (.int x_18) ∧ (hw_cv l g R (k13 + 1) (n14 + 4) ym_Fo_init (mw_Fo_init) 2 [.ref q16, .int x_18] w17 (fun (k20 n21 : Nat) (w19 : hw_H) => hw_o w19 a0 "ProofCourt$Text" ∧ hw_ci l g R k20 n21 ym_Te_passesNumber (mw_Te_passesNumber) 3 [.ref a0, .int (0 : Int32), .int (24 : Int32)] w19 (fun (k23 n24 : Nat) (x_25 : Int32) (w22 : hw_H) => ((x_25 = 0) → (PR k23 n24 (none : Option Nat) w22)) ∧ ((¬ x_25 = 0) → (∃ x_26 : Int32, hw_g w22 a0 0 5 (.int x_26) ∧ (hw_o w22 q16 "ProofCourt$Formula" ∧ hw_ci l g R k23 n24 ym_Fo_takesClauses (mw_Fo_takesClauses) 5 [.ref q16, .ref a0, .int x_26] w22 (fun (k28 n29 : Nat) (x_30 : Int32) (w27 : hw_H) => ((¬ x_30 = 0) → (hw_o w27 a0 "ProofCourt$Text" ∧ hw_ci l g R k28 n29 ym_Te_isAtEnd (mw_Te_isAtEnd) 1 [.ref a0] w27 (fun (k32 n33 : Nat) (x_34 : Int32) (w31 : hw_H) => ((x_34 = 0) → (PR k32 n33 (none : Option Nat) w31)) ∧ ((¬ x_34 = 0) → (PR k32 n33 (some q16) w31))))) ∧ ((x_30 = 0) → (PR k28 n29 (none : Option Nat) w27)))))))))))) ∧ ((x_15 = 0) → (PR k13 n14 (none : Option Nat) w12))))))))))
set_option maxHeartbeats 4000000 in
set_option maxRecDepth 100000 in
theorem sg_Fo_formulaIn_0 (X : hw_X p m c cb_Fo_formulaIn 2 s args (mw_Fo_formulaIn) "ProofCourt$Formula" g A) {K : Nat → Nat → Nat → List (Option Value) → List Value → hw_H → Prop} {PR : Nat → Nat → Option Nat → hw_H → Prop} (hK : ∀ (k n pc : Nat) (lv : List (Option Value)) (st : List Value) (w : hw_H), K k n pc lv st w → hw_J p l e R s m args below meth c Q 2 g A k n pc lv st w) (rt : ∀ {k n pc : Nat} {lv : List (Option Value)} {o : Option Nat} {w : hw_H}, decode cb_Fo_formulaIn pc = .ok (.areturn, 1) → PR k n o w → hw_J p l e R s m args below meth c Q 2 g A k n pc lv [va_rf o] w) {a0 : Nat} (vc : vc_Fo_formulaIn_0 l g R K PR k n a0 w) : hw_J p l e R s m args below meth c Q 2 g A k n 0 [some (.ref a0), none] [] w := by
  unfold vc_Fo_formulaIn_0 at vc
  refine hw_aload_n X (Or.inr ⟨_, rfl⟩) dd_Fo_formulaIn_0 rfl ?_
  refine hw_iconst X (v := 1) dd_Fo_formulaIn_1 (by decide) ?_
  obtain ⟨hob, rm9, po9, hM9, hf9, hc9, vc⟩ := vc
  refine hw_callVv X (As := [.int (1 : Int32)]) (ye_Fo_24 X) hM9 rfl hf9 hc9 hob (Nat.le_of_ble_eq_true rfl) rfl dd_Fo_formulaIn_2 (fun w1 hp => ?_)
  replace vc := vc w1 hp
  refine hw_aload_n X (Or.inr ⟨_, rfl⟩) dd_Fo_formulaIn_5 rfl ?_
  refine hw_ldcS X (i := 1) (tx := "p") (hw_sR_at 1 rfl) dd_Fo_formulaIn_6 ?_
  obtain ⟨hob, rm9, po9, hM9, hf9, hc9, vc⟩ := vc
  refine hw_callVi X (As := [.ref (g.2.2.1 1)]) (ye_Fo_32 X) hM9 rfl hf9 hc9 hob (Nat.le_of_ble_eq_true rfl) rfl dd_Fo_formulaIn_8 (fun x_7 w4 hp => ?_)
  replace vc := vc x_7 w4 hp
  refine hw_if_eq X (tgt := 33) dd_Fo_formulaIn_11 rfl (fun hc => ?_) (fun hc => ?_)
  · replace vc := vc.1 hc
    refine hw_null X dd_Fo_formulaIn_33 ?_
    exact rt (o := (none : Option Nat)) dd_Fo_formulaIn_34 vc
  · replace vc := vc.2 hc
    refine hw_aload_n X (Or.inr ⟨_, rfl⟩) dd_Fo_formulaIn_14 rfl ?_
    refine hw_ldcS X (i := 2) (tx := "cnf") (hw_sR_at 2 rfl) dd_Fo_formulaIn_15 ?_
    obtain ⟨hob, rm9, po9, hM9, hf9, hc9, vc⟩ := vc
    refine hw_callVi X (As := [.ref (g.2.2.1 2)]) (ye_Fo_32 X) hM9 rfl hf9 hc9 hob (Nat.le_of_ble_eq_true rfl) rfl dd_Fo_formulaIn_17 (fun x_11 w8 hp => ?_)
    replace vc := vc x_11 w8 hp
    refine hw_if_eq X (tgt := 33) dd_Fo_formulaIn_20 rfl (fun hc => ?_) (fun hc => ?_)
    · replace vc := vc.1 hc
      refine hw_null X dd_Fo_formulaIn_33 ?_
      exact rt (o := (none : Option Nat)) dd_Fo_formulaIn_34 vc
    · replace vc := vc.2 hc
      refine hw_aload_n X (Or.inr ⟨_, rfl⟩) dd_Fo_formulaIn_23 rfl ?_
      refine hw_iconst X (v := 1) dd_Fo_formulaIn_24 (by decide) ?_
      refine hw_bipush X (v := 10) dd_Fo_formulaIn_25 (by decide) ?_
      obtain ⟨hob, rm9, po9, hM9, hf9, hc9, vc⟩ := vc
      refine hw_callVi X (As := [.int (1 : Int32), .int (10 : Int32)]) (ye_Fo_38 X) hM9 rfl hf9 hc9 hob (Nat.le_of_ble_eq_true rfl) rfl dd_Fo_formulaIn_27 (fun x_15 w12 hp => ?_)
      replace vc := vc x_15 w12 hp
      refine hw_if_ne X (tgt := 35) dd_Fo_formulaIn_30 rfl (fun hc => ?_) (fun hc => ?_)
      · replace vc := vc.1 hc
        refine hw_new X (ne_Fo_12 X) vc.1.1 vc.1.2 dd_Fo_formulaIn_35 (fun q16 hq => ?_)
        replace vc := vc.2 q16 _ hq rfl
        refine hw_dup X rfl dd_Fo_formulaIn_38 ?_
        refine hw_aload_n X (Or.inr ⟨_, rfl⟩) dd_Fo_formulaIn_39 rfl ?_
        obtain ⟨x_18, h9, vc⟩ := vc
        refine hw_get X (fe_Fo_42 X) h9 dd_Fo_formulaIn_40 ?_
        obtain ⟨rm9, po9, hM9, hf9, hc9, vc⟩ := vc
        refine hw_callIv X (As := [.int x_18]) (ye_Fo_45 X) hM9 rfl hf9 hc9 (Nat.le_of_ble_eq_true rfl) rfl dd_Fo_formulaIn_43 (fun w19 hp => ?_)
        replace vc := vc w19 hp
        refine hw_astore_n X (Or.inr ⟨_, rfl⟩) dd_Fo_formulaIn_46 (by decide) rfl ?_
        refine hw_aload_n X (Or.inr ⟨_, rfl⟩) dd_Fo_formulaIn_47 rfl ?_
        refine hw_iconst X (v := 0) dd_Fo_formulaIn_48 (by decide) ?_
        refine hw_bipush X (v := 24) dd_Fo_formulaIn_49 (by decide) ?_
        obtain ⟨hob, rm9, po9, hM9, hf9, hc9, vc⟩ := vc
        refine hw_callVi X (As := [.int (0 : Int32), .int (24 : Int32)]) (ye_Fo_38 X) hM9 rfl hf9 hc9 hob (Nat.le_of_ble_eq_true rfl) rfl dd_Fo_formulaIn_51 (fun x_25 w22 hp => ?_)
        replace vc := vc x_25 w22 hp
        refine hw_if_eq X (tgt := 69) dd_Fo_formulaIn_54 rfl (fun hc => ?_) (fun hc => ?_)
        · replace vc := vc.1 hc
          refine hw_null X dd_Fo_formulaIn_69 ?_
          exact rt (o := (none : Option Nat)) dd_Fo_formulaIn_70 vc
        · replace vc := vc.2 hc
          refine hw_aload_n X (Or.inr ⟨_, rfl⟩) dd_Fo_formulaIn_57 rfl ?_
          refine hw_aload_n X (Or.inr ⟨_, rfl⟩) dd_Fo_formulaIn_58 rfl ?_
          refine hw_aload_n X (Or.inr ⟨_, rfl⟩) dd_Fo_formulaIn_59 rfl ?_
          obtain ⟨x_26, h9, vc⟩ := vc
          refine hw_get X (fe_Fo_42 X) h9 dd_Fo_formulaIn_60 ?_
          obtain ⟨hob, rm9, po9, hM9, hf9, hc9, vc⟩ := vc
          refine hw_callVi X (As := [.ref a0, .int x_26]) (ye_Fo_48 X) hM9 rfl hf9 hc9 hob (Nat.le_of_ble_eq_true rfl) rfl dd_Fo_formulaIn_63 (fun x_30 w27 hp => ?_)
          replace vc := vc x_30 w27 hp
          refine hw_if_ne X (tgt := 71) dd_Fo_formulaIn_66 rfl (fun hc => ?_) (fun hc => ?_)
          · replace vc := vc.1 hc
            refine hw_aload_n X (Or.inr ⟨_, rfl⟩) dd_Fo_formulaIn_71 rfl ?_
            obtain ⟨hob, rm9, po9, hM9, hf9, hc9, vc⟩ := vc
            refine hw_callVi X (As := []) (ye_Fo_52 X) hM9 rfl hf9 hc9 hob (Nat.le_of_ble_eq_true rfl) rfl dd_Fo_formulaIn_72 (fun x_34 w31 hp => ?_)
            replace vc := vc x_34 w31 hp
            refine hw_if_eq X (tgt := 82) dd_Fo_formulaIn_75 rfl (fun hc => ?_) (fun hc => ?_)
            · replace vc := vc.1 hc
              refine hw_null X dd_Fo_formulaIn_82 ?_
              exact rt (o := (none : Option Nat)) dd_Fo_formulaIn_83 vc
            · replace vc := vc.2 hc
              refine hw_aload_n X (Or.inr ⟨_, rfl⟩) dd_Fo_formulaIn_78 rfl ?_
              refine hw_goto X (tgt := 83) dd_Fo_formulaIn_79 rfl ?_
              exact rt (o := (some q16)) dd_Fo_formulaIn_83 vc
          · replace vc := vc.2 hc
            refine hw_null X dd_Fo_formulaIn_69 ?_
            exact rt (o := (none : Option Nat)) dd_Fo_formulaIn_70 vc
      · replace vc := vc.2 hc
        refine hw_null X dd_Fo_formulaIn_33 ?_
        exact rt (o := (none : Option Nat)) dd_Fo_formulaIn_34 vc
end
section
variable {p : Program} {l : Launch} {e : Env} {R : Room} {s : State} {m : MethodId} {args : Array Value} {below : List Frame} {meth : Method} {c : Code} {Q : State → Prop} {g : hw_G} {A : Nat → Prop} {k n : Nat} {w : hw_H}
def vc_Fo_takesClauses_0 (l : Launch) (g : hw_G) (R : Room) (K : Nat → Nat → Nat → List (Option Value) → List Value → hw_H → Prop) (PR : Nat → Nat → Int32 → hw_H → Prop) (k n : Nat) (a0 : Nat) (a1 : Nat) (x2 : Int32) (w : hw_H) : Prop := K k n 2 [some (.ref a0), some (.ref a1), some (.int x2), some (.int (0 : Int32)), none] [] w
set_option maxHeartbeats 4000000 in
set_option maxRecDepth 100000 in
theorem sg_Fo_takesClauses_0 (X : hw_X p m c cb_Fo_takesClauses 5 s args (mw_Fo_takesClauses) "ProofCourt$Formula" g A) {K : Nat → Nat → Nat → List (Option Value) → List Value → hw_H → Prop} {PR : Nat → Nat → Int32 → hw_H → Prop} (hK : ∀ (k n pc : Nat) (lv : List (Option Value)) (st : List Value) (w : hw_H), K k n pc lv st w → hw_J p l e R s m args below meth c Q 5 g A k n pc lv st w) (rt : ∀ {k n pc : Nat} {lv : List (Option Value)} {x : Int32} {w : hw_H}, decode cb_Fo_takesClauses pc = .ok (.ireturn, 1) → PR k n x w → hw_J p l e R s m args below meth c Q 5 g A k n pc lv [.int x] w) {a0 : Nat} {a1 : Nat} {x2 : Int32} (vc : vc_Fo_takesClauses_0 l g R K PR k n a0 a1 x2 w) : hw_J p l e R s m args below meth c Q 5 g A k n 0 [some (.ref a0), some (.ref a1), some (.int x2), none, none] [] w := by
  unfold vc_Fo_takesClauses_0 at vc
  refine hw_iconst X (v := 0) dd_Fo_takesClauses_0 (by decide) ?_
  refine hw_istore_n X dd_Fo_takesClauses_1 (by decide) rfl ?_
  exact hK _ _ _ _ _ _ vc
def vc_Fo_takesClauses_2 (l : Launch) (g : hw_G) (R : Room) (K : Nat → Nat → Nat → List (Option Value) → List Value → hw_H → Prop) (PR : Nat → Nat → Int32 → hw_H → Prop) (k n : Nat) (a0 : Nat) (a1 : Nat) (x2 : Int32) (x3 : Int32) (w : hw_H) : Prop := ((x2 ≤ x3) → (PR k n (1 : Int32) w)) ∧ ((¬ x2 ≤ x3) → ((((24 : Int32) ≤ x3) → (PR k n (1 : Int32) w)) ∧ ((¬ (24 : Int32) ≤ x3) → (∃ x_1 : Int32, hw_g w a0 3 0 (.int x_1) ∧ (hw_cq l g R k n ym_Cl_clauseIn (mw_Cl_clauseIn) 6 [.ref a1, .int (x3 + (1 : Int32)), .int x_1] w (fun (k3 n4 : Nat) (o_5 : Option Nat) (w2 : hw_H) => (o_5 = none → (PR k3 n4 (0 : Int32) w2)) ∧ (∀ q6 : Nat, o_5 = some q6 → (∃ b_7 : Nat, hw_g w2 a0 3 1 (.ref b_7) ∧ (∃ w8 : hw_H, hw_aw g 5 w2 b_7 x3 q6 w8 ∧ (∃ w9 : hw_H, hw_p w8 a0 3 2 (.int (x3 + (1 : Int32))) w9 ∧ (K k3 n4 2 [some (.ref a0), some (.ref a1), some (.int x2), some (.int (x3 + 1)), none] [] w9)))))))))))
set_option maxHeartbeats 4000000 in
set_option maxRecDepth 100000 in
theorem sg_Fo_takesClauses_2 (X : hw_X p m c cb_Fo_takesClauses 5 s args (mw_Fo_takesClauses) "ProofCourt$Formula" g A) {K : Nat → Nat → Nat → List (Option Value) → List Value → hw_H → Prop} {PR : Nat → Nat → Int32 → hw_H → Prop} (hK : ∀ (k n pc : Nat) (lv : List (Option Value)) (st : List Value) (w : hw_H), K k n pc lv st w → hw_J p l e R s m args below meth c Q 5 g A k n pc lv st w) (rt : ∀ {k n pc : Nat} {lv : List (Option Value)} {x : Int32} {w : hw_H}, decode cb_Fo_takesClauses pc = .ok (.ireturn, 1) → PR k n x w → hw_J p l e R s m args below meth c Q 5 g A k n pc lv [.int x] w) {a0 : Nat} {a1 : Nat} {x2 : Int32} {x3 : Int32} (vc : vc_Fo_takesClauses_2 l g R K PR k n a0 a1 x2 x3 w) : hw_J p l e R s m args below meth c Q 5 g A k n 2 [some (.ref a0), some (.ref a1), some (.int x2), some (.int x3), none] [] w := by
  unfold vc_Fo_takesClauses_2 at vc
  refine hw_iload_n X dd_Fo_takesClauses_2 rfl ?_
  refine hw_iload_n X dd_Fo_takesClauses_3 rfl ?_
  refine hw_icmp_ge X (tgt := 54) dd_Fo_takesClauses_4 rfl (fun hc => ?_) (fun hc => ?_)
  · replace vc := vc.1 hc
    refine hw_iconst X (v := 1) dd_Fo_takesClauses_54 (by decide) ?_
    exact rt dd_Fo_takesClauses_55 vc
  · replace vc := vc.2 hc
    refine hw_iload_n X dd_Fo_takesClauses_7 rfl ?_
    refine hw_bipush X (v := 24) dd_Fo_takesClauses_8 (by decide) ?_
    refine hw_icmp_ge X (tgt := 54) dd_Fo_takesClauses_10 rfl (fun hc => ?_) (fun hc => ?_)
    · replace vc := vc.1 hc
      refine hw_iconst X (v := 1) dd_Fo_takesClauses_54 (by decide) ?_
      exact rt dd_Fo_takesClauses_55 vc
    · replace vc := vc.2 hc
      refine hw_aload_n X (Or.inr ⟨_, rfl⟩) dd_Fo_takesClauses_13 rfl ?_
      refine hw_iload_n X dd_Fo_takesClauses_14 rfl ?_
      refine hw_iconst X (v := 1) dd_Fo_takesClauses_15 (by decide) ?_
      refine hw_iadd X dd_Fo_takesClauses_16 ?_
      refine hw_aload_n X (Or.inr ⟨_, rfl⟩) dd_Fo_takesClauses_17 rfl ?_
      obtain ⟨x_1, h9, vc⟩ := vc
      refine hw_get X (fe_Fo_21 X) h9 dd_Fo_takesClauses_18 ?_
      obtain ⟨rm9, po9, hM9, hf9, hc9, vc⟩ := vc
      refine hw_callSq X (As := [.ref a1, .int (x3 + (1 : Int32)), .int x_1]) (ye_Fo_56 X) hM9 rfl hf9 hc9 (Nat.le_of_ble_eq_true rfl) rfl dd_Fo_takesClauses_21 (fun o_5 w2 hp => ?_)
      replace vc := vc o_5 w2 hp
      refine hw_astore X (va_rf_or _) dd_Fo_takesClauses_24 (by decide) rfl ?_
      refine hw_aload X (va_rf_or _) dd_Fo_takesClauses_26 rfl ?_
      refine hw_ifnonnull X (tgt := 33) dd_Fo_takesClauses_28 rfl (fun q6 hc => ?_) (fun hc => ?_)
      · replace vc := vc.2 q6 hc
        subst hc
        refine hw_aload_n X (Or.inr ⟨_, rfl⟩) dd_Fo_takesClauses_33 rfl ?_
        obtain ⟨b_7, h9, vc⟩ := vc
        refine hw_get X (fe_Fo_11 X) h9 dd_Fo_takesClauses_34 ?_
        refine hw_iload_n X dd_Fo_takesClauses_37 rfl ?_
        refine hw_aload X (Or.inr ⟨_, rfl⟩) dd_Fo_takesClauses_38 rfl ?_
        obtain ⟨w8, h9, vc⟩ := vc
        refine hw_aast X (ci := 5) rfl rfl h9 dd_Fo_takesClauses_40 ?_
        refine hw_aload_n X (Or.inr ⟨_, rfl⟩) dd_Fo_takesClauses_41 rfl ?_
        refine hw_iload_n X dd_Fo_takesClauses_42 rfl ?_
        refine hw_iconst X (v := 1) dd_Fo_takesClauses_43 (by decide) ?_
        refine hw_iadd X dd_Fo_takesClauses_44 ?_
        obtain ⟨w9, h9, vc⟩ := vc
        refine hw_put X (fp_Fo_60 X) rfl rfl h9 dd_Fo_takesClauses_45 ?_
        refine hw_iinc X (v := (x3 + 1)) dd_Fo_takesClauses_48 rfl rfl (by decide) rfl ?_
        refine hw_goto X (tgt := 2) dd_Fo_takesClauses_51 rfl ?_
        exact hw_drop (lv9 := [some (.ref a0), some (.ref a1), some (.int x2), some (.int (x3 + 1)), none]) (⟨rfl, ⟨rfl, ⟨rfl, ⟨rfl, ⟨trivial, trivial⟩⟩⟩⟩⟩) (hK _ _ _ _ _ _ vc)
      · replace vc := vc.1 hc
        refine hw_iconst X (v := 0) dd_Fo_takesClauses_31 (by decide) ?_
        exact rt dd_Fo_takesClauses_32 vc
end
section
variable {p : Program} {l : Launch} {e : Env} {R : Room} {s : State} {m : MethodId} {args : Array Value} {below : List Frame} {meth : Method} {c : Code} {Q : State → Prop} {g : hw_G} {A : Nat → Prop} {k n : Nat} {w : hw_H}
def vc_Fo_satisfying_0 (l : Launch) (g : hw_G) (R : Room) (K : Nat → Nat → Nat → List (Option Value) → List Value → hw_H → Prop) (PR : Nat → Nat → Int32 → hw_H → Prop) (k n : Nat) (a0 : Nat) (w : hw_H) : Prop := ∃ x_1 : Int32, hw_g w a0 3 3 (.int x_1) ∧ (((¬ x_1 = (-1 : Int32)) → (∃ x_2 : Int32, hw_g w a0 3 3 (.int x_2) ∧ (PR k n x_2 w))) ∧ ((x_1 = (-1 : Int32)) → (∃ w3 : hw_H, hw_p w a0 3 3 (.int (0 : Int32)) w3 ∧ (K k n 15 [some (.ref a0), some (.int (0 : Int32)), none] [] w3))))
set_option maxHeartbeats 4000000 in
set_option maxRecDepth 100000 in
theorem sg_Fo_satisfying_0 (X : hw_X p m c cb_Fo_satisfying 3 s args (mw_Fo_satisfying) "ProofCourt$Formula" g A) {K : Nat → Nat → Nat → List (Option Value) → List Value → hw_H → Prop} {PR : Nat → Nat → Int32 → hw_H → Prop} (hK : ∀ (k n pc : Nat) (lv : List (Option Value)) (st : List Value) (w : hw_H), K k n pc lv st w → hw_J p l e R s m args below meth c Q 3 g A k n pc lv st w) (rt : ∀ {k n pc : Nat} {lv : List (Option Value)} {x : Int32} {w : hw_H}, decode cb_Fo_satisfying pc = .ok (.ireturn, 1) → PR k n x w → hw_J p l e R s m args below meth c Q 3 g A k n pc lv [.int x] w) {a0 : Nat} (vc : vc_Fo_satisfying_0 l g R K PR k n a0 w) : hw_J p l e R s m args below meth c Q 3 g A k n 0 [some (.ref a0), none, none] [] w := by
  unfold vc_Fo_satisfying_0 at vc
  refine hw_aload_n X (Or.inr ⟨_, rfl⟩) dd_Fo_satisfying_0 rfl ?_
  obtain ⟨x_1, h9, vc⟩ := vc
  refine hw_get X (fe_Fo_17 X) h9 dd_Fo_satisfying_1 ?_
  refine hw_iconst X (v := -1) dd_Fo_satisfying_4 (by decide) ?_
  refine hw_icmp_ne X (tgt := 65) dd_Fo_satisfying_5 rfl (fun hc => ?_) (fun hc => ?_)
  · replace vc := vc.1 hc
    refine hw_aload_n X (Or.inr ⟨_, rfl⟩) dd_Fo_satisfying_65 rfl ?_
    obtain ⟨x_2, h9, vc⟩ := vc
    refine hw_get X (fe_Fo_17 X) h9 dd_Fo_satisfying_66 ?_
    exact rt dd_Fo_satisfying_69 vc
  · replace vc := vc.2 hc
    refine hw_aload_n X (Or.inr ⟨_, rfl⟩) dd_Fo_satisfying_8 rfl ?_
    refine hw_iconst X (v := 0) dd_Fo_satisfying_9 (by decide) ?_
    obtain ⟨w3, h9, vc⟩ := vc
    refine hw_put X (fp_Fo_17 X) rfl rfl h9 dd_Fo_satisfying_10 ?_
    refine hw_iconst X (v := 0) dd_Fo_satisfying_13 (by decide) ?_
    refine hw_istore_n X dd_Fo_satisfying_14 (by decide) rfl ?_
    exact hK _ _ _ _ _ _ vc
def vc_Fo_satisfying_15 (l : Launch) (g : hw_G) (R : Room) (K : Nat → Nat → Nat → List (Option Value) → List Value → hw_H → Prop) (PR : Nat → Nat → Int32 → hw_H → Prop) (k n : Nat) (a0 : Nat) (x1 : Int32) (w : hw_H) : Prop := ∃ x_1 : Int32, hw_g w a0 3 0 (.int x_1) ∧ (((((1 : Int32) <<< (x_1 &&& 31)) ≤ x1) → (∃ x_2 : Int32, hw_g w a0 3 3 (.int x_2) ∧ (PR k n x_2 w))) ∧ ((¬ ((1 : Int32) <<< (x_1 &&& 31)) ≤ x1) → (∃ x_3 : Int32, hw_g w a0 3 0 (.int x_3) ∧ (∀ y4 : Int32, y4 = ((((1 : Int32) <<< (x_3 &&& 31)) - (1 : Int32)) - x1) → (hw_o w a0 "ProofCourt$Formula" ∧ hw_ci l g R k n ym_Fo_isSatisfied (mw_Fo_isSatisfied) 3 [.ref a0, .int (x1 ||| (y4 <<< ((10 : Int32) &&& 31)))] w (fun (k6 n7 : Nat) (x_8 : Int32) (w5 : hw_H) => ((x_8 = 0) → (K k6 n7 15 [some (.ref a0), some (.int (x1 + 1)), none] [] w5)) ∧ ((¬ x_8 = 0) → (∃ x_9 : Int32, hw_g w5 a0 3 3 (.int x_9) ∧ (∃ w10 : hw_H, hw_p w5 a0 3 3 (.int (x_9 + (1 : Int32))) w10 ∧ (K k6 n7 15 [some (.ref a0), some (.int (x1 + 1)), none] [] w10))))))))))
set_option maxHeartbeats 4000000 in
set_option maxRecDepth 100000 in
theorem sg_Fo_satisfying_15 (X : hw_X p m c cb_Fo_satisfying 3 s args (mw_Fo_satisfying) "ProofCourt$Formula" g A) {K : Nat → Nat → Nat → List (Option Value) → List Value → hw_H → Prop} {PR : Nat → Nat → Int32 → hw_H → Prop} (hK : ∀ (k n pc : Nat) (lv : List (Option Value)) (st : List Value) (w : hw_H), K k n pc lv st w → hw_J p l e R s m args below meth c Q 3 g A k n pc lv st w) (rt : ∀ {k n pc : Nat} {lv : List (Option Value)} {x : Int32} {w : hw_H}, decode cb_Fo_satisfying pc = .ok (.ireturn, 1) → PR k n x w → hw_J p l e R s m args below meth c Q 3 g A k n pc lv [.int x] w) {a0 : Nat} {x1 : Int32} (vc : vc_Fo_satisfying_15 l g R K PR k n a0 x1 w) : hw_J p l e R s m args below meth c Q 3 g A k n 15 [some (.ref a0), some (.int x1), none] [] w := by
  unfold vc_Fo_satisfying_15 at vc
  refine hw_iload_n X dd_Fo_satisfying_15 rfl ?_
  refine hw_iconst X (v := 1) dd_Fo_satisfying_16 (by decide) ?_
  refine hw_aload_n X (Or.inr ⟨_, rfl⟩) dd_Fo_satisfying_17 rfl ?_
  obtain ⟨x_1, h9, vc⟩ := vc
  refine hw_get X (fe_Fo_21 X) h9 dd_Fo_satisfying_18 ?_
  refine hw_ishl X dd_Fo_satisfying_21 ?_
  refine hw_icmp_ge X (tgt := 65) dd_Fo_satisfying_22 rfl (fun hc => ?_) (fun hc => ?_)
  · replace vc := vc.1 hc
    refine hw_aload_n X (Or.inr ⟨_, rfl⟩) dd_Fo_satisfying_65 rfl ?_
    obtain ⟨x_2, h9, vc⟩ := vc
    refine hw_get X (fe_Fo_17 X) h9 dd_Fo_satisfying_66 ?_
    exact rt dd_Fo_satisfying_69 vc
  · replace vc := vc.2 hc
    refine hw_iconst X (v := 1) dd_Fo_satisfying_25 (by decide) ?_
    refine hw_aload_n X (Or.inr ⟨_, rfl⟩) dd_Fo_satisfying_26 rfl ?_
    obtain ⟨x_3, h9, vc⟩ := vc
    refine hw_get X (fe_Fo_21 X) h9 dd_Fo_satisfying_27 ?_
    refine hw_ishl X dd_Fo_satisfying_30 ?_
    refine hw_iconst X (v := 1) dd_Fo_satisfying_31 (by decide) ?_
    refine hw_isub X dd_Fo_satisfying_32 ?_
    refine hw_iload_n X dd_Fo_satisfying_33 rfl ?_
    refine hw_isub X dd_Fo_satisfying_34 ?_
    refine hw_top (fun y4 ey4 => ?_)
    replace vc := vc y4 ey4
    refine hw_istore_n X dd_Fo_satisfying_35 (by decide) rfl ?_
    refine hw_aload_n X (Or.inr ⟨_, rfl⟩) dd_Fo_satisfying_36 rfl ?_
    refine hw_iload_n X dd_Fo_satisfying_37 rfl ?_
    refine hw_iload_n X dd_Fo_satisfying_38 rfl ?_
    refine hw_bipush X (v := 10) dd_Fo_satisfying_39 (by decide) ?_
    refine hw_ishl X dd_Fo_satisfying_41 ?_
    refine hw_ior X dd_Fo_satisfying_42 ?_
    obtain ⟨hob, rm9, po9, hM9, hf9, hc9, vc⟩ := vc
    refine hw_callVi X (As := [.int (x1 ||| (y4 <<< ((10 : Int32) &&& 31)))]) (ye_Fo_63 X) hM9 rfl hf9 hc9 hob (Nat.le_of_ble_eq_true rfl) rfl dd_Fo_satisfying_43 (fun x_8 w5 hp => ?_)
    replace vc := vc x_8 w5 hp
    refine hw_if_eq X (tgt := 59) dd_Fo_satisfying_46 rfl (fun hc => ?_) (fun hc => ?_)
    · replace vc := vc.1 hc
      refine hw_iinc X (v := (x1 + 1)) dd_Fo_satisfying_59 rfl rfl (by decide) rfl ?_
      refine hw_goto X (tgt := 15) dd_Fo_satisfying_62 rfl ?_
      exact hw_drop (lv9 := [some (.ref a0), some (.int (x1 + 1)), none]) (⟨rfl, ⟨rfl, ⟨trivial, trivial⟩⟩⟩) (hK _ _ _ _ _ _ vc)
    · replace vc := vc.2 hc
      refine hw_aload_n X (Or.inr ⟨_, rfl⟩) dd_Fo_satisfying_49 rfl ?_
      refine hw_dup X rfl dd_Fo_satisfying_50 ?_
      obtain ⟨x_9, h9, vc⟩ := vc
      refine hw_get X (fe_Fo_17 X) h9 dd_Fo_satisfying_51 ?_
      refine hw_iconst X (v := 1) dd_Fo_satisfying_54 (by decide) ?_
      refine hw_iadd X dd_Fo_satisfying_55 ?_
      obtain ⟨w10, h9, vc⟩ := vc
      refine hw_put X (fp_Fo_17 X) rfl rfl h9 dd_Fo_satisfying_56 ?_
      refine hw_iinc X (v := (x1 + 1)) dd_Fo_satisfying_59 rfl rfl (by decide) rfl ?_
      refine hw_goto X (tgt := 15) dd_Fo_satisfying_62 rfl ?_
      exact hw_drop (lv9 := [some (.ref a0), some (.int (x1 + 1)), none]) (⟨rfl, ⟨rfl, ⟨trivial, trivial⟩⟩⟩) (hK _ _ _ _ _ _ vc)
end
section
variable {p : Program} {l : Launch} {e : Env} {R : Room} {s : State} {m : MethodId} {args : Array Value} {below : List Frame} {meth : Method} {c : Code} {Q : State → Prop} {g : hw_G} {A : Nat → Prop} {k n : Nat} {w : hw_H}
def vc_Fo_isSatisfied_0 (l : Launch) (g : hw_G) (R : Room) (K : Nat → Nat → Nat → List (Option Value) → List Value → hw_H → Prop) (PR : Nat → Nat → Int32 → hw_H → Prop) (k n : Nat) (a0 : Nat) (x1 : Int32) (w : hw_H) : Prop := K k n 2 [some (.ref a0), some (.int x1), some (.int (0 : Int32))] [] w
set_option maxHeartbeats 4000000 in
set_option maxRecDepth 100000 in
theorem sg_Fo_isSatisfied_0 (X : hw_X p m c cb_Fo_isSatisfied 3 s args (mw_Fo_isSatisfied) "ProofCourt$Formula" g A) {K : Nat → Nat → Nat → List (Option Value) → List Value → hw_H → Prop} {PR : Nat → Nat → Int32 → hw_H → Prop} (hK : ∀ (k n pc : Nat) (lv : List (Option Value)) (st : List Value) (w : hw_H), K k n pc lv st w → hw_J p l e R s m args below meth c Q 3 g A k n pc lv st w) (rt : ∀ {k n pc : Nat} {lv : List (Option Value)} {x : Int32} {w : hw_H}, decode cb_Fo_isSatisfied pc = .ok (.ireturn, 1) → PR k n x w → hw_J p l e R s m args below meth c Q 3 g A k n pc lv [.int x] w) {a0 : Nat} {x1 : Int32} (vc : vc_Fo_isSatisfied_0 l g R K PR k n a0 x1 w) : hw_J p l e R s m args below meth c Q 3 g A k n 0 [some (.ref a0), some (.int x1), none] [] w := by
  unfold vc_Fo_isSatisfied_0 at vc
  refine hw_iconst X (v := 0) dd_Fo_isSatisfied_0 (by decide) ?_
  refine hw_istore_n X dd_Fo_isSatisfied_1 (by decide) rfl ?_
  exact hK _ _ _ _ _ _ vc
def vc_Fo_isSatisfied_2 (l : Launch) (g : hw_G) (R : Room) (K : Nat → Nat → Nat → List (Option Value) → List Value → hw_H → Prop) (PR : Nat → Nat → Int32 → hw_H → Prop) (k n : Nat) (a0 : Nat) (x1 : Int32) (x2 : Int32) (w : hw_H) : Prop := ∃ x_1 : Int32, hw_g w a0 3 2 (.int x_1) ∧ (((x_1 ≤ x2) → (PR k n (1 : Int32) w)) ∧ ((¬ x_1 ≤ x2) → (∃ b_2 : Nat, hw_g w a0 3 1 (.ref b_2) ∧ (∃ b_3 : Nat, hw_ar g w b_2 x2 (some b_3) ∧ (∃ x_4 : Int32, hw_g w b_3 5 3 (.int x_4) ∧ (((¬ (x_4 &&& x1) = 0) → (K k n 2 [some (.ref a0), some (.int x1), some (.int (x2 + 1))] [] w)) ∧ (((x_4 &&& x1) = 0) → (PR k n (0 : Int32) w))))))))
set_option maxHeartbeats 4000000 in
set_option maxRecDepth 100000 in
theorem sg_Fo_isSatisfied_2 (X : hw_X p m c cb_Fo_isSatisfied 3 s args (mw_Fo_isSatisfied) "ProofCourt$Formula" g A) {K : Nat → Nat → Nat → List (Option Value) → List Value → hw_H → Prop} {PR : Nat → Nat → Int32 → hw_H → Prop} (hK : ∀ (k n pc : Nat) (lv : List (Option Value)) (st : List Value) (w : hw_H), K k n pc lv st w → hw_J p l e R s m args below meth c Q 3 g A k n pc lv st w) (rt : ∀ {k n pc : Nat} {lv : List (Option Value)} {x : Int32} {w : hw_H}, decode cb_Fo_isSatisfied pc = .ok (.ireturn, 1) → PR k n x w → hw_J p l e R s m args below meth c Q 3 g A k n pc lv [.int x] w) {a0 : Nat} {x1 : Int32} {x2 : Int32} (vc : vc_Fo_isSatisfied_2 l g R K PR k n a0 x1 x2 w) : hw_J p l e R s m args below meth c Q 3 g A k n 2 [some (.ref a0), some (.int x1), some (.int x2)] [] w := by
  unfold vc_Fo_isSatisfied_2 at vc
  refine hw_iload_n X dd_Fo_isSatisfied_2 rfl ?_
  refine hw_aload_n X (Or.inr ⟨_, rfl⟩) dd_Fo_isSatisfied_3 rfl ?_
  obtain ⟨x_1, h9, vc⟩ := vc
  refine hw_get X (fe_Fo_60 X) h9 dd_Fo_isSatisfied_4 ?_
  refine hw_icmp_ge X (tgt := 32) dd_Fo_isSatisfied_7 rfl (fun hc => ?_) (fun hc => ?_)
  · replace vc := vc.1 hc
    refine hw_iconst X (v := 1) dd_Fo_isSatisfied_32 (by decide) ?_
    exact rt dd_Fo_isSatisfied_33 vc
  · replace vc := vc.2 hc
    refine hw_aload_n X (Or.inr ⟨_, rfl⟩) dd_Fo_isSatisfied_10 rfl ?_
    obtain ⟨b_2, h9, vc⟩ := vc
    refine hw_get X (fe_Fo_11 X) h9 dd_Fo_isSatisfied_11 ?_
    refine hw_iload_n X dd_Fo_isSatisfied_14 rfl ?_
    obtain ⟨b_3, h9, vc⟩ := vc
    refine hw_aald X h9 dd_Fo_isSatisfied_15 ?_
    obtain ⟨x_4, h9, vc⟩ := vc
    refine hw_get X (fe_Fo_67 X) h9 dd_Fo_isSatisfied_16 ?_
    refine hw_iload_n X dd_Fo_isSatisfied_19 rfl ?_
    refine hw_iand X dd_Fo_isSatisfied_20 ?_
    refine hw_if_ne X (tgt := 26) dd_Fo_isSatisfied_21 rfl (fun hc => ?_) (fun hc => ?_)
    · replace vc := vc.1 hc
      refine hw_iinc X (v := (x2 + 1)) dd_Fo_isSatisfied_26 rfl rfl (by decide) rfl ?_
      refine hw_goto X (tgt := 2) dd_Fo_isSatisfied_29 rfl ?_
      exact hK _ _ _ _ _ _ vc
    · replace vc := vc.2 hc
      refine hw_iconst X (v := 0) dd_Fo_isSatisfied_24 (by decide) ?_
      exact rt dd_Fo_isSatisfied_25 vc
end
section
variable {p : Program} {l : Launch} {e : Env} {R : Room} {s : State} {m : MethodId} {args : Array Value} {below : List Frame} {meth : Method} {c : Code} {Q : State → Prop} {g : hw_G} {A : Nat → Prop} {k n : Nat} {w : hw_H}
def vc_Fo_forcedBy_0 (l : Launch) (g : hw_G) (R : Room) (K : Nat → Nat → Nat → List (Option Value) → List Value → hw_H → Prop) (PR : Nat → Nat → Int32 → hw_H → Prop) (k n : Nat) (a0 : Nat) (x1 : Int32) (w : hw_H) : Prop := K k n 4 [some (.ref a0), some (.int x1), some (.int x1), some (.int (0 : Int32)), none, none, none] [] w
set_option maxHeartbeats 4000000 in
set_option maxRecDepth 100000 in
theorem sg_Fo_forcedBy_0 (X : hw_X p m c cb_Fo_forcedBy 7 s args (mw_Fo_forcedBy) "ProofCourt$Formula" g A) {K : Nat → Nat → Nat → List (Option Value) → List Value → hw_H → Prop} {PR : Nat → Nat → Int32 → hw_H → Prop} (hK : ∀ (k n pc : Nat) (lv : List (Option Value)) (st : List Value) (w : hw_H), K k n pc lv st w → hw_J p l e R s m args below meth c Q 7 g A k n pc lv st w) (rt : ∀ {k n pc : Nat} {lv : List (Option Value)} {x : Int32} {w : hw_H}, decode cb_Fo_forcedBy pc = .ok (.ireturn, 1) → PR k n x w → hw_J p l e R s m args below meth c Q 7 g A k n pc lv [.int x] w) {a0 : Nat} {x1 : Int32} (vc : vc_Fo_forcedBy_0 l g R K PR k n a0 x1 w) : hw_J p l e R s m args below meth c Q 7 g A k n 0 [some (.ref a0), some (.int x1), none, none, none, none, none] [] w := by
  unfold vc_Fo_forcedBy_0 at vc
  refine hw_iload_n X dd_Fo_forcedBy_0 rfl ?_
  refine hw_istore_n X dd_Fo_forcedBy_1 (by decide) rfl ?_
  refine hw_iconst X (v := 0) dd_Fo_forcedBy_2 (by decide) ?_
  refine hw_istore_n X dd_Fo_forcedBy_3 (by decide) rfl ?_
  exact hK _ _ _ _ _ _ vc
def vc_Fo_forcedBy_4 (l : Launch) (g : hw_G) (R : Room) (K : Nat → Nat → Nat → List (Option Value) → List Value → hw_H → Prop) (PR : Nat → Nat → Int32 → hw_H → Prop) (k n : Nat) (a0 : Nat) (x1 : Int32) (x2 : Int32) (x3 : Int32) (w : hw_H) : Prop := ∃ x_1 : Int32, hw_g w a0 3 0 (.int x_1) ∧ (((x_1 < x3) → (PR k n x2 w)) ∧ ((¬ x_1 < x3) → (K k n 18 [some (.ref a0), some (.int x1), some (.int x2), some (.int x3), some (.int x2), some (.int (0 : Int32)), none] [] w)))
set_option maxHeartbeats 4000000 in
set_option maxRecDepth 100000 in
theorem sg_Fo_forcedBy_4 (X : hw_X p m c cb_Fo_forcedBy 7 s args (mw_Fo_forcedBy) "ProofCourt$Formula" g A) {K : Nat → Nat → Nat → List (Option Value) → List Value → hw_H → Prop} {PR : Nat → Nat → Int32 → hw_H → Prop} (hK : ∀ (k n pc : Nat) (lv : List (Option Value)) (st : List Value) (w : hw_H), K k n pc lv st w → hw_J p l e R s m args below meth c Q 7 g A k n pc lv st w) (rt : ∀ {k n pc : Nat} {lv : List (Option Value)} {x : Int32} {w : hw_H}, decode cb_Fo_forcedBy pc = .ok (.ireturn, 1) → PR k n x w → hw_J p l e R s m args below meth c Q 7 g A k n pc lv [.int x] w) {a0 : Nat} {x1 : Int32} {x2 : Int32} {x3 : Int32} (vc : vc_Fo_forcedBy_4 l g R K PR k n a0 x1 x2 x3 w) : hw_J p l e R s m args below meth c Q 7 g A k n 4 [some (.ref a0), some (.int x1), some (.int x2), some (.int x3), none, none, none] [] w := by
  unfold vc_Fo_forcedBy_4 at vc
  refine hw_iload_n X dd_Fo_forcedBy_4 rfl ?_
  refine hw_aload_n X (Or.inr ⟨_, rfl⟩) dd_Fo_forcedBy_5 rfl ?_
  obtain ⟨x_1, h9, vc⟩ := vc
  refine hw_get X (fe_Fo_21 X) h9 dd_Fo_forcedBy_6 ?_
  refine hw_icmp_gt X (tgt := 85) dd_Fo_forcedBy_9 rfl (fun hc => ?_) (fun hc => ?_)
  · replace vc := vc.1 hc
    refine hw_iload_n X dd_Fo_forcedBy_85 rfl ?_
    exact rt dd_Fo_forcedBy_86 vc
  · replace vc := vc.2 hc
    refine hw_iload_n X dd_Fo_forcedBy_12 rfl ?_
    refine hw_istore X dd_Fo_forcedBy_13 (by decide) rfl ?_
    refine hw_iconst X (v := 0) dd_Fo_forcedBy_15 (by decide) ?_
    refine hw_istore X dd_Fo_forcedBy_16 (by decide) rfl ?_
    exact hK _ _ _ _ _ _ vc
def vc_Fo_forcedBy_18 (l : Launch) (g : hw_G) (R : Room) (K : Nat → Nat → Nat → List (Option Value) → List Value → hw_H → Prop) (PR : Nat → Nat → Int32 → hw_H → Prop) (k n : Nat) (a0 : Nat) (x1 : Int32) (x2 : Int32) (x3 : Int32) (x4 : Int32) (x5 : Int32) (w : hw_H) : Prop := ∃ x_1 : Int32, hw_g w a0 3 2 (.int x_1) ∧ (((x_1 ≤ x5) → (((¬ x2 = x4) → (K k n 4 [some (.ref a0), some (.int x1), some (.int x2), some (.int (x3 + 1)), none, none, none] [] w)) ∧ ((x2 = x4) → (PR k n x2 w)))) ∧ ((¬ x_1 ≤ x5) → (∃ b_2 : Nat, hw_g w a0 3 1 (.ref b_2) ∧ (∃ b_3 : Nat, hw_ar g w b_2 x5 (some b_3) ∧ (∃ x_4 : Int32, hw_g w b_3 5 3 (.int x_4) ∧ (hw_ci l g R k n ym_Co_follow (mw_Co_follow) 3 [.int x_4, .int x2] w (fun (k6 n7 : Nat) (x_8 : Int32) (w5 : hw_H) => ((¬ x_8 = (-1 : Int32)) → (((¬ x_8 = (-2 : Int32)) → (K k6 n7 18 [some (.ref a0), some (.int x1), some (.int x_8), some (.int x3), some (.int x4), some (.int (x5 + 1)), none] [] w5)) ∧ ((x_8 = (-2 : Int32)) → (K k6 n7 18 [some (.ref a0), some (.int x1), some (.int x2), some (.int x3), some (.int x4), some (.int (x5 + 1)), none] [] w5)))) ∧ ((x_8 = (-1 : Int32)) → (PR k6 n7 (-1 : Int32) w5)))))))))
set_option maxHeartbeats 4000000 in
set_option maxRecDepth 100000 in
theorem sg_Fo_forcedBy_18 (X : hw_X p m c cb_Fo_forcedBy 7 s args (mw_Fo_forcedBy) "ProofCourt$Formula" g A) {K : Nat → Nat → Nat → List (Option Value) → List Value → hw_H → Prop} {PR : Nat → Nat → Int32 → hw_H → Prop} (hK : ∀ (k n pc : Nat) (lv : List (Option Value)) (st : List Value) (w : hw_H), K k n pc lv st w → hw_J p l e R s m args below meth c Q 7 g A k n pc lv st w) (rt : ∀ {k n pc : Nat} {lv : List (Option Value)} {x : Int32} {w : hw_H}, decode cb_Fo_forcedBy pc = .ok (.ireturn, 1) → PR k n x w → hw_J p l e R s m args below meth c Q 7 g A k n pc lv [.int x] w) {a0 : Nat} {x1 : Int32} {x2 : Int32} {x3 : Int32} {x4 : Int32} {x5 : Int32} (vc : vc_Fo_forcedBy_18 l g R K PR k n a0 x1 x2 x3 x4 x5 w) : hw_J p l e R s m args below meth c Q 7 g A k n 18 [some (.ref a0), some (.int x1), some (.int x2), some (.int x3), some (.int x4), some (.int x5), none] [] w := by
  unfold vc_Fo_forcedBy_18 at vc
  refine hw_iload X dd_Fo_forcedBy_18 rfl ?_
  refine hw_aload_n X (Or.inr ⟨_, rfl⟩) dd_Fo_forcedBy_20 rfl ?_
  obtain ⟨x_1, h9, vc⟩ := vc
  refine hw_get X (fe_Fo_60 X) h9 dd_Fo_forcedBy_21 ?_
  refine hw_icmp_ge X (tgt := 71) dd_Fo_forcedBy_24 rfl (fun hc => ?_) (fun hc => ?_)
  · replace vc := vc.1 hc
    refine hw_iload_n X dd_Fo_forcedBy_71 rfl ?_
    refine hw_iload X dd_Fo_forcedBy_72 rfl ?_
    refine hw_icmp_ne X (tgt := 79) dd_Fo_forcedBy_74 rfl (fun hc => ?_) (fun hc => ?_)
    · replace vc := vc.1 hc
      refine hw_iinc X (v := (x3 + 1)) dd_Fo_forcedBy_79 rfl rfl (by decide) rfl ?_
      refine hw_goto X (tgt := 4) dd_Fo_forcedBy_82 rfl ?_
      exact hw_drop (lv9 := [some (.ref a0), some (.int x1), some (.int x2), some (.int (x3 + 1)), none, none, none]) (⟨rfl, ⟨rfl, ⟨rfl, ⟨rfl, ⟨trivial, ⟨trivial, ⟨trivial, trivial⟩⟩⟩⟩⟩⟩⟩) (hK _ _ _ _ _ _ vc)
    · replace vc := vc.2 hc
      refine hw_iload_n X dd_Fo_forcedBy_77 rfl ?_
      exact rt dd_Fo_forcedBy_78 vc
  · replace vc := vc.2 hc
    refine hw_aload_n X (Or.inr ⟨_, rfl⟩) dd_Fo_forcedBy_27 rfl ?_
    obtain ⟨b_2, h9, vc⟩ := vc
    refine hw_get X (fe_Fo_11 X) h9 dd_Fo_forcedBy_28 ?_
    refine hw_iload X dd_Fo_forcedBy_31 rfl ?_
    obtain ⟨b_3, h9, vc⟩ := vc
    refine hw_aald X h9 dd_Fo_forcedBy_33 ?_
    obtain ⟨x_4, h9, vc⟩ := vc
    refine hw_get X (fe_Fo_67 X) h9 dd_Fo_forcedBy_34 ?_
    refine hw_iload_n X dd_Fo_forcedBy_37 rfl ?_
    obtain ⟨rm9, po9, hM9, hf9, hc9, vc⟩ := vc
    refine hw_callSi X (As := [.int x_4, .int x2]) (ye_Fo_70 X) hM9 rfl hf9 hc9 (Nat.le_of_ble_eq_true rfl) rfl dd_Fo_forcedBy_38 (fun x_8 w5 hp => ?_)
    replace vc := vc x_8 w5 hp
    refine hw_istore X dd_Fo_forcedBy_41 (by decide) rfl ?_
    refine hw_iload X dd_Fo_forcedBy_43 rfl ?_
    refine hw_iconst X (v := -1) dd_Fo_forcedBy_45 (by decide) ?_
    refine hw_icmp_ne X (tgt := 51) dd_Fo_forcedBy_46 rfl (fun hc => ?_) (fun hc => ?_)
    · replace vc := vc.1 hc
      refine hw_iload X dd_Fo_forcedBy_51 rfl ?_
      refine hw_bipush X (v := -2) dd_Fo_forcedBy_53 (by decide) ?_
      refine hw_icmp_ne X (tgt := 62) dd_Fo_forcedBy_55 rfl (fun hc => ?_) (fun hc => ?_)
      · replace vc := vc.1 hc
        refine hw_iload X dd_Fo_forcedBy_62 rfl ?_
        refine hw_istore_n X dd_Fo_forcedBy_64 (by decide) rfl ?_
        refine hw_iinc X (v := (x5 + 1)) dd_Fo_forcedBy_65 rfl rfl (by decide) rfl ?_
        refine hw_goto X (tgt := 18) dd_Fo_forcedBy_68 rfl ?_
        exact hw_drop (lv9 := [some (.ref a0), some (.int x1), some (.int x_8), some (.int x3), some (.int x4), some (.int (x5 + 1)), none]) (⟨rfl, ⟨rfl, ⟨rfl, ⟨rfl, ⟨rfl, ⟨rfl, ⟨trivial, trivial⟩⟩⟩⟩⟩⟩⟩) (hK _ _ _ _ _ _ vc)
      · replace vc := vc.2 hc
        refine hw_iload_n X dd_Fo_forcedBy_58 rfl ?_
        refine hw_goto X (tgt := 64) dd_Fo_forcedBy_59 rfl ?_
        refine hw_istore_n X dd_Fo_forcedBy_64 (by decide) rfl ?_
        refine hw_iinc X (v := (x5 + 1)) dd_Fo_forcedBy_65 rfl rfl (by decide) rfl ?_
        refine hw_goto X (tgt := 18) dd_Fo_forcedBy_68 rfl ?_
        exact hw_drop (lv9 := [some (.ref a0), some (.int x1), some (.int x2), some (.int x3), some (.int x4), some (.int (x5 + 1)), none]) (⟨rfl, ⟨rfl, ⟨rfl, ⟨rfl, ⟨rfl, ⟨rfl, ⟨trivial, trivial⟩⟩⟩⟩⟩⟩⟩) (hK _ _ _ _ _ _ vc)
    · replace vc := vc.2 hc
      refine hw_iconst X (v := -1) dd_Fo_forcedBy_49 (by decide) ?_
      exact rt dd_Fo_forcedBy_50 vc
end
section
variable {p : Program} {l : Launch} {e : Env} {R : Room} {s : State} {m : MethodId} {args : Array Value} {below : List Frame} {meth : Method} {c : Code} {Q : State → Prop} {g : hw_G} {A : Nat → Prop} {k n : Nat} {w : hw_H}
def vc_Li_init_0 (l : Launch) (g : hw_G) (R : Room) (K : Nat → Nat → Nat → List (Option Value) → List Value → hw_H → Prop) (PR : Nat → Nat → hw_H → Prop) (k n : Nat) (a0 : Nat) (x1 : Int32) (w : hw_H) : Prop := (k + 1 ≤ R.cells ∧ n + 12 ≤ R.slots) ∧ ∀ (q1 : Nat) (w2 : hw_H), w q1 = none → w2 = va_up w q1 (some (.inl (g.2.1 0, 12, .inl (fun _ => 0)))) → (∃ w3 : hw_H, hw_p w2 a0 6 2 (.ref q1) w3 ∧ (∃ w4 : hw_H, hw_p w3 a0 6 0 (.int x1) w4 ∧ (PR (k + 1) (n + 12) w4)))
set_option maxHeartbeats 4000000 in
set_option maxRecDepth 100000 in
theorem sg_Li_init_0 (X : hw_X p m c cb_Li_init 2 s args (mw_Li_init) "ProofCourt$Line" g A) (hin : meth.name = "<init>") (hRm : 1 ≤ R.frames ∧ 20 ≤ R.locals) {K : Nat → Nat → Nat → List (Option Value) → List Value → hw_H → Prop} {PR : Nat → Nat → hw_H → Prop} (hK : ∀ (k n pc : Nat) (lv : List (Option Value)) (st : List Value) (w : hw_H), K k n pc lv st w → hw_J p l e R s m args below meth c Q 2 g A k n pc lv st w) (rt : ∀ {k n pc : Nat} {lv : List (Option Value)} {w : hw_H}, decode cb_Li_init pc = .ok (.return_, 1) → PR k n w → hw_J p l e R s m args below meth c Q 2 g A k n pc lv [] w) {a0 : Nat} {x1 : Int32} (vc : vc_Li_init_0 l g R K PR k n a0 x1 w) : hw_J p l e R s m args below meth c Q 2 g A k n 0 [some (.ref a0), some (.int x1)] [] w := by
  unfold vc_Li_init_0 at vc
  refine hw_aload_n X (Or.inr ⟨_, rfl⟩) dd_Li_init_0 rfl ?_
  refine hw_objInit X (oi_Li_3 X) (oj_Li X) (ok_Li X) (hw_oi1 hRm) (hw_oi2 hRm) (by decide) dd_Li_init_1 ?_
  refine hw_aload_n X (Or.inr ⟨_, rfl⟩) dd_Li_init_4 rfl ?_
  refine hw_bipush X (v := 12) dd_Li_init_5 (by decide) ?_
  refine hw_newa X (t := 0) (N := 12) (ty := .int) (ac_Li_int X) rfl rfl (fun _ z => by cases z) rfl (by decide) (by decide) (by decide) vc.1.1 vc.1.2 dd_Li_init_7 (fun q1 hq => ?_)
  replace vc := vc.2 q1 _ hq rfl
  obtain ⟨w3, h9, vc⟩ := vc
  refine hw_putF X (ff_Li_9 X) hin rfl rfl h9 dd_Li_init_9 ?_
  refine hw_aload_n X (Or.inr ⟨_, rfl⟩) dd_Li_init_12 rfl ?_
  refine hw_iload_n X dd_Li_init_13 rfl ?_
  obtain ⟨w4, h9, vc⟩ := vc
  refine hw_putF X (ff_Li_15 X) hin rfl rfl h9 dd_Li_init_14 ?_
  exact rt dd_Li_init_17 vc
end
section
variable {p : Program} {l : Launch} {e : Env} {R : Room} {s : State} {m : MethodId} {args : Array Value} {below : List Frame} {meth : Method} {c : Code} {Q : State → Prop} {g : hw_G} {A : Nat → Prop} {k n : Nat} {w : hw_H}
def vc_Li_lineIn_0 (l : Launch) (g : hw_G) (R : Room) (K : Nat → Nat → Nat → List (Option Value) → List Value → hw_H → Prop) (PR : Nat → Nat → Option Nat → hw_H → Prop) (k n : Nat) (a0 : Nat) (x1 : Int32) (w : hw_H) : Prop := hw_o w a0 "ProofCourt$Text" ∧ hw_cv l g R k n ym_Te_rewind (mw_Te_rewind) 2 [.ref a0, .int (0 : Int32)] w (fun (k2 n3 : Nat) (w1 : hw_H) => hw_o w1 a0 "ProofCourt$Text" ∧ hw_ci l g R k2 n3 ym_Te_passesNumber (mw_Te_passesNumber) 3 [.ref a0, .int (1 : Int32), .int (999 : Int32)] w1 (fun (k5 n6 : Nat) (x_7 : Int32) (w4 : hw_H) => ((¬ x_7 = 0) → ((k5 + 1 ≤ R.cells ∧ n6 + 4 ≤ R.slots) ∧ ∀ (q8 : Nat) (w9 : hw_H), w4 q8 = none → w9 = va_up w4 q8 (some (.inr (6, [.int 0, .null, .null, .int 0]))) → (∃ x_10 : Int32, hw_g w9 a0 0 5 (.int x_10) ∧ (hw_cv l g R (k5 + 1) (n6 + 4) ym_Li_init (mw_Li_init) 2 [.ref q8, .int x_10] w9 (fun (k12 n13 : Nat) (w11 : hw_H) => hw_o w11 a0 "ProofCourt$Text" ∧ hw_ci l g R k12 n13 ym_Te_passesWord (mw_Te_passesWord) 2 [.ref a0, .ref (g.2.2.1 3)] w11 (fun (k15 n16 : Nat) (x_17 : Int32) (w14 : hw_H) => ((x_17 = 0) → (hw_o w14 q8 "ProofCourt$Line" ∧ hw_ci l g R k15 n16 ym_Li_takesClause (mw_Li_takesClause) 3 [.ref q8, .ref a0, .int x1] w14 (fun (k19 n20 : Nat) (x_21 : Int32) (w18 : hw_H) => ((x_21 = 0) → (PR k19 n20 (none : Option Nat) w18)) ∧ ((¬ x_21 = 0) → (hw_o w18 q8 "ProofCourt$Line" ∧ hw_ci l g R k19 n20 ym_Li_takesNamed (mw_Li_takesNamed) 5 [.ref q8, .ref a0, .int (-999 : Int32)] w18 (fun (k23 n24 : Nat) (x_25 : Int32) (w22 : hw_H) => ((x_25 = 0) → (PR k23 n24 (none : Option Nat) w22)) ∧ ((¬ x_25 = 0) → (hw_o w22 a0 "ProofCourt$Text" ∧ hw_ci l g R k23 n24 ym_Te_isAtEnd (mw_Te_isAtEnd) 1 [.ref a0] w22 (fun (k27 n28 : Nat) (x_29 : Int32) (w26 : hw_H) => ((x_29 = 0) → (PR k27 n28 (none : Option Nat) w26)) ∧ ((¬ x_29 = 0) → (PR k27 n28 (some q8) w26))))))))))) ∧ ((¬ x_17 = 0) → (hw_o w14 q8 "ProofCourt$Line" ∧ hw_ci l g R k15 n16 ym_Li_takesNamed (mw_Li_takesNamed) 5 [.ref q8, .ref a0, .int (0 : Int32)] w14 (fun (k31 n32 : Nat) (x_33 : Int32) (w30 : hw_H) => ((x_33 = 0) → (PR k31 n32 (none : Option Nat) w30)) ∧ ((¬ x_33 = 0) → (hw_o w30 a0 "ProofCourt$Text" ∧ hw_ci l g R k31 n32 ym_Te_isAtEnd (mw_Te_isAtEnd) 1 [.ref a0] w30 (fun (k35 n36 : Nat) (x_37 : Int32) (w34 : hw_H) => ((x_37 = 0) → (PR k35 n36 (none : Option Nat) w34)) ∧ ((¬ x_37 = 0) → (PR k35 n36 (some q8) w34)))))))))))))) ∧ ((x_7 = 0) → (PR k5 n6 (none : Option Nat) w4))))
set_option maxHeartbeats 4000000 in
set_option maxRecDepth 100000 in
theorem sg_Li_lineIn_0 (X : hw_X p m c cb_Li_lineIn 4 s args (mw_Li_lineIn) "ProofCourt$Line" g A) {K : Nat → Nat → Nat → List (Option Value) → List Value → hw_H → Prop} {PR : Nat → Nat → Option Nat → hw_H → Prop} (hK : ∀ (k n pc : Nat) (lv : List (Option Value)) (st : List Value) (w : hw_H), K k n pc lv st w → hw_J p l e R s m args below meth c Q 4 g A k n pc lv st w) (rt : ∀ {k n pc : Nat} {lv : List (Option Value)} {o : Option Nat} {w : hw_H}, decode cb_Li_lineIn pc = .ok (.areturn, 1) → PR k n o w → hw_J p l e R s m args below meth c Q 4 g A k n pc lv [va_rf o] w) {a0 : Nat} {x1 : Int32} (vc : vc_Li_lineIn_0 l g R K PR k n a0 x1 w) : hw_J p l e R s m args below meth c Q 4 g A k n 0 [some (.ref a0), some (.int x1), none, none] [] w := by
  unfold vc_Li_lineIn_0 at vc
  refine hw_aload_n X (Or.inr ⟨_, rfl⟩) dd_Li_lineIn_0 rfl ?_
  refine hw_iconst X (v := 0) dd_Li_lineIn_1 (by decide) ?_
  obtain ⟨hob, rm9, po9, hM9, hf9, hc9, vc⟩ := vc
  refine hw_callVv X (As := [.int (0 : Int32)]) (ye_Li_19 X) hM9 rfl hf9 hc9 hob (Nat.le_of_ble_eq_true rfl) rfl dd_Li_lineIn_2 (fun w1 hp => ?_)
  replace vc := vc w1 hp
  refine hw_aload_n X (Or.inr ⟨_, rfl⟩) dd_Li_lineIn_5 rfl ?_
  refine hw_iconst X (v := 1) dd_Li_lineIn_6 (by decide) ?_
  refine hw_sipush X (v := 999) dd_Li_lineIn_7 (by decide) ?_
  obtain ⟨hob, rm9, po9, hM9, hf9, hc9, vc⟩ := vc
  refine hw_callVi X (As := [.int (1 : Int32), .int (999 : Int32)]) (ye_Li_25 X) hM9 rfl hf9 hc9 hob (Nat.le_of_ble_eq_true rfl) rfl dd_Li_lineIn_10 (fun x_7 w4 hp => ?_)
  replace vc := vc x_7 w4 hp
  refine hw_if_ne X (tgt := 18) dd_Li_lineIn_13 rfl (fun hc => ?_) (fun hc => ?_)
  · replace vc := vc.1 hc
    refine hw_new X (ne_Li_10 X) vc.1.1 vc.1.2 dd_Li_lineIn_18 (fun q8 hq => ?_)
    replace vc := vc.2 q8 _ hq rfl
    refine hw_dup X rfl dd_Li_lineIn_21 ?_
    refine hw_aload_n X (Or.inr ⟨_, rfl⟩) dd_Li_lineIn_22 rfl ?_
    obtain ⟨x_10, h9, vc⟩ := vc
    refine hw_get X (fe_Li_29 X) h9 dd_Li_lineIn_23 ?_
    obtain ⟨rm9, po9, hM9, hf9, hc9, vc⟩ := vc
    refine hw_callIv X (As := [.int x_10]) (ye_Li_30 X) hM9 rfl hf9 hc9 (Nat.le_of_ble_eq_true rfl) rfl dd_Li_lineIn_26 (fun w11 hp => ?_)
    replace vc := vc w11 hp
    refine hw_astore_n X (Or.inr ⟨_, rfl⟩) dd_Li_lineIn_29 (by decide) rfl ?_
    refine hw_aload_n X (Or.inr ⟨_, rfl⟩) dd_Li_lineIn_30 rfl ?_
    refine hw_ldcS X (i := 3) (tx := "d") (hw_sR_at 3 rfl) dd_Li_lineIn_31 ?_
    obtain ⟨hob, rm9, po9, hM9, hf9, hc9, vc⟩ := vc
    refine hw_callVi X (As := [.ref (g.2.2.1 3)]) (ye_Li_35 X) hM9 rfl hf9 hc9 hob (Nat.le_of_ble_eq_true rfl) rfl dd_Li_lineIn_33 (fun x_17 w14 hp => ?_)
    replace vc := vc x_17 w14 hp
    refine hw_if_eq X (tgt := 48) dd_Li_lineIn_36 rfl (fun hc => ?_) (fun hc => ?_)
    · replace vc := vc.1 hc
      refine hw_aload_n X (Or.inr ⟨_, rfl⟩) dd_Li_lineIn_48 rfl ?_
      refine hw_aload_n X (Or.inr ⟨_, rfl⟩) dd_Li_lineIn_49 rfl ?_
      refine hw_iload_n X dd_Li_lineIn_50 rfl ?_
      obtain ⟨hob, rm9, po9, hM9, hf9, hc9, vc⟩ := vc
      refine hw_callVi X (As := [.ref a0, .int x1]) (ye_Li_43 X) hM9 rfl hf9 hc9 hob (Nat.le_of_ble_eq_true rfl) rfl dd_Li_lineIn_51 (fun x_21 w18 hp => ?_)
      replace vc := vc x_21 w18 hp
      refine hw_if_eq X (tgt := 72) dd_Li_lineIn_54 rfl (fun hc => ?_) (fun hc => ?_)
      · replace vc := vc.1 hc
        refine hw_iconst X (v := 0) dd_Li_lineIn_72 (by decide) ?_
        refine hw_istore_n X dd_Li_lineIn_73 (by decide) rfl ?_
        refine hw_iload_n X dd_Li_lineIn_74 rfl ?_
        refine hw_if_eq X (tgt := 89) dd_Li_lineIn_75 rfl (fun _ => ?_) (fun hc => absurd hc (by decide))
        refine hw_null X dd_Li_lineIn_89 ?_
        exact rt (o := (none : Option Nat)) dd_Li_lineIn_90 vc
      · replace vc := vc.2 hc
        refine hw_aload_n X (Or.inr ⟨_, rfl⟩) dd_Li_lineIn_57 rfl ?_
        refine hw_aload_n X (Or.inr ⟨_, rfl⟩) dd_Li_lineIn_58 rfl ?_
        refine hw_sipush X (v := -999) dd_Li_lineIn_59 (by decide) ?_
        obtain ⟨hob, rm9, po9, hM9, hf9, hc9, vc⟩ := vc
        refine hw_callVi X (As := [.ref a0, .int (-999 : Int32)]) (ye_Li_39 X) hM9 rfl hf9 hc9 hob (Nat.le_of_ble_eq_true rfl) rfl dd_Li_lineIn_62 (fun x_25 w22 hp => ?_)
        replace vc := vc x_25 w22 hp
        refine hw_if_eq X (tgt := 72) dd_Li_lineIn_65 rfl (fun hc => ?_) (fun hc => ?_)
        · replace vc := vc.1 hc
          refine hw_iconst X (v := 0) dd_Li_lineIn_72 (by decide) ?_
          refine hw_istore_n X dd_Li_lineIn_73 (by decide) rfl ?_
          refine hw_iload_n X dd_Li_lineIn_74 rfl ?_
          refine hw_if_eq X (tgt := 89) dd_Li_lineIn_75 rfl (fun _ => ?_) (fun hc => absurd hc (by decide))
          refine hw_null X dd_Li_lineIn_89 ?_
          exact rt (o := (none : Option Nat)) dd_Li_lineIn_90 vc
        · replace vc := vc.2 hc
          refine hw_iconst X (v := 1) dd_Li_lineIn_68 (by decide) ?_
          refine hw_goto X (tgt := 73) dd_Li_lineIn_69 rfl ?_
          refine hw_istore_n X dd_Li_lineIn_73 (by decide) rfl ?_
          refine hw_iload_n X dd_Li_lineIn_74 rfl ?_
          refine hw_if_eq X (tgt := 89) dd_Li_lineIn_75 rfl (fun hc => absurd hc (by decide)) (fun _ => ?_)
          refine hw_aload_n X (Or.inr ⟨_, rfl⟩) dd_Li_lineIn_78 rfl ?_
          obtain ⟨hob, rm9, po9, hM9, hf9, hc9, vc⟩ := vc
          refine hw_callVi X (As := []) (ye_Li_46 X) hM9 rfl hf9 hc9 hob (Nat.le_of_ble_eq_true rfl) rfl dd_Li_lineIn_79 (fun x_29 w26 hp => ?_)
          replace vc := vc x_29 w26 hp
          refine hw_if_eq X (tgt := 89) dd_Li_lineIn_82 rfl (fun hc => ?_) (fun hc => ?_)
          · replace vc := vc.1 hc
            refine hw_null X dd_Li_lineIn_89 ?_
            exact rt (o := (none : Option Nat)) dd_Li_lineIn_90 vc
          · replace vc := vc.2 hc
            refine hw_aload_n X (Or.inr ⟨_, rfl⟩) dd_Li_lineIn_85 rfl ?_
            refine hw_goto X (tgt := 90) dd_Li_lineIn_86 rfl ?_
            exact rt (o := (some q8)) dd_Li_lineIn_90 vc
    · replace vc := vc.2 hc
      refine hw_aload_n X (Or.inr ⟨_, rfl⟩) dd_Li_lineIn_39 rfl ?_
      refine hw_aload_n X (Or.inr ⟨_, rfl⟩) dd_Li_lineIn_40 rfl ?_
      refine hw_iconst X (v := 0) dd_Li_lineIn_41 (by decide) ?_
      obtain ⟨hob, rm9, po9, hM9, hf9, hc9, vc⟩ := vc
      refine hw_callVi X (As := [.ref a0, .int (0 : Int32)]) (ye_Li_39 X) hM9 rfl hf9 hc9 hob (Nat.le_of_ble_eq_true rfl) rfl dd_Li_lineIn_42 (fun x_33 w30 hp => ?_)
      replace vc := vc x_33 w30 hp
      refine hw_goto X (tgt := 73) dd_Li_lineIn_45 rfl ?_
      refine hw_istore_n X dd_Li_lineIn_73 (by decide) rfl ?_
      refine hw_iload_n X dd_Li_lineIn_74 rfl ?_
      refine hw_if_eq X (tgt := 89) dd_Li_lineIn_75 rfl (fun hc => ?_) (fun hc => ?_)
      · replace vc := vc.1 hc
        refine hw_null X dd_Li_lineIn_89 ?_
        exact rt (o := (none : Option Nat)) dd_Li_lineIn_90 vc
      · replace vc := vc.2 hc
        refine hw_aload_n X (Or.inr ⟨_, rfl⟩) dd_Li_lineIn_78 rfl ?_
        obtain ⟨hob, rm9, po9, hM9, hf9, hc9, vc⟩ := vc
        refine hw_callVi X (As := []) (ye_Li_46 X) hM9 rfl hf9 hc9 hob (Nat.le_of_ble_eq_true rfl) rfl dd_Li_lineIn_79 (fun x_37 w34 hp => ?_)
        replace vc := vc x_37 w34 hp
        refine hw_if_eq X (tgt := 89) dd_Li_lineIn_82 rfl (fun hc => ?_) (fun hc => ?_)
        · replace vc := vc.1 hc
          refine hw_null X dd_Li_lineIn_89 ?_
          exact rt (o := (none : Option Nat)) dd_Li_lineIn_90 vc
        · replace vc := vc.2 hc
          refine hw_aload_n X (Or.inr ⟨_, rfl⟩) dd_Li_lineIn_85 rfl ?_
          refine hw_goto X (tgt := 90) dd_Li_lineIn_86 rfl ?_
          exact rt (o := (some q8)) dd_Li_lineIn_90 vc
  · replace vc := vc.2 hc
    refine hw_null X dd_Li_lineIn_16 ?_
    exact rt (o := (none : Option Nat)) dd_Li_lineIn_17 vc
end
section
variable {p : Program} {l : Launch} {e : Env} {R : Room} {s : State} {m : MethodId} {args : Array Value} {below : List Frame} {meth : Method} {c : Code} {Q : State → Prop} {g : hw_G} {A : Nat → Prop} {k n : Nat} {w : hw_H}
def vc_Li_takesClause_0 (l : Launch) (g : hw_G) (R : Room) (K : Nat → Nat → Nat → List (Option Value) → List Value → hw_H → Prop) (PR : Nat → Nat → Int32 → hw_H → Prop) (k n : Nat) (a0 : Nat) (a1 : Nat) (x2 : Int32) (w : hw_H) : Prop := ∃ x_1 : Int32, hw_g w a0 6 0 (.int x_1) ∧ (hw_cq l g R k n ym_Cl_clauseIn (mw_Cl_clauseIn) 6 [.ref a1, .int x_1, .int x2] w (fun (k3 n4 : Nat) (o_5 : Option Nat) (w2 : hw_H) => ∃ w6 : hw_H, hw_p w2 a0 6 1 (va_rf o_5) w6 ∧ (∃ o_7 : Option Nat, hw_g w6 a0 6 1 (va_rf o_7) ∧ ((o_7 = none → (PR k3 n4 (0 : Int32) w6)) ∧ (∀ q8 : Nat, o_7 = some q8 → (PR k3 n4 (1 : Int32) w6))))))
set_option maxHeartbeats 4000000 in
set_option maxRecDepth 100000 in
theorem sg_Li_takesClause_0 (X : hw_X p m c cb_Li_takesClause 3 s args (mw_Li_takesClause) "ProofCourt$Line" g A) {K : Nat → Nat → Nat → List (Option Value) → List Value → hw_H → Prop} {PR : Nat → Nat → Int32 → hw_H → Prop} (hK : ∀ (k n pc : Nat) (lv : List (Option Value)) (st : List Value) (w : hw_H), K k n pc lv st w → hw_J p l e R s m args below meth c Q 3 g A k n pc lv st w) (rt : ∀ {k n pc : Nat} {lv : List (Option Value)} {x : Int32} {w : hw_H}, decode cb_Li_takesClause pc = .ok (.ireturn, 1) → PR k n x w → hw_J p l e R s m args below meth c Q 3 g A k n pc lv [.int x] w) {a0 : Nat} {a1 : Nat} {x2 : Int32} (vc : vc_Li_takesClause_0 l g R K PR k n a0 a1 x2 w) : hw_J p l e R s m args below meth c Q 3 g A k n 0 [some (.ref a0), some (.ref a1), some (.int x2)] [] w := by
  unfold vc_Li_takesClause_0 at vc
  refine hw_aload_n X (Or.inr ⟨_, rfl⟩) dd_Li_takesClause_0 rfl ?_
  refine hw_aload_n X (Or.inr ⟨_, rfl⟩) dd_Li_takesClause_1 rfl ?_
  refine hw_aload_n X (Or.inr ⟨_, rfl⟩) dd_Li_takesClause_2 rfl ?_
  obtain ⟨x_1, h9, vc⟩ := vc
  refine hw_get X (fe_Li_15 X) h9 dd_Li_takesClause_3 ?_
  refine hw_iload_n X dd_Li_takesClause_6 rfl ?_
  obtain ⟨rm9, po9, hM9, hf9, hc9, vc⟩ := vc
  refine hw_callSq X (As := [.ref a1, .int x_1, .int x2]) (ye_Li_50 X) hM9 rfl hf9 hc9 (Nat.le_of_ble_eq_true rfl) rfl dd_Li_takesClause_7 (fun o_5 w2 hp => ?_)
  replace vc := vc o_5 w2 hp
  obtain ⟨w6, h9, vc⟩ := vc
  refine hw_put X (fp_Li_56 X) (hw_rf_nar _ _) (hw_rf_fit _ _) h9 dd_Li_takesClause_10 ?_
  refine hw_aload_n X (Or.inr ⟨_, rfl⟩) dd_Li_takesClause_13 rfl ?_
  obtain ⟨o_7, h9, vc⟩ := vc
  refine hw_get X (fe_Li_56 X) h9 dd_Li_takesClause_14 ?_
  refine hw_ifnull X (tgt := 24) dd_Li_takesClause_17 rfl (fun hc => ?_) (fun q8 hc => ?_)
  · replace vc := vc.1 hc
    refine hw_iconst X (v := 0) dd_Li_takesClause_24 (by decide) ?_
    exact rt dd_Li_takesClause_25 vc
  · replace vc := vc.2 q8 hc
    subst hc
    refine hw_iconst X (v := 1) dd_Li_takesClause_20 (by decide) ?_
    refine hw_goto X (tgt := 25) dd_Li_takesClause_21 rfl ?_
    exact rt dd_Li_takesClause_25 vc
end
section
variable {p : Program} {l : Launch} {e : Env} {R : Room} {s : State} {m : MethodId} {args : Array Value} {below : List Frame} {meth : Method} {c : Code} {Q : State → Prop} {g : hw_G} {A : Nat → Prop} {k n : Nat} {w : hw_H}
def vc_Li_takesNamed_0 (l : Launch) (g : hw_G) (R : Room) (K : Nat → Nat → Nat → List (Option Value) → List Value → hw_H → Prop) (PR : Nat → Nat → Int32 → hw_H → Prop) (k n : Nat) (a0 : Nat) (a1 : Nat) (x2 : Int32) (w : hw_H) : Prop := K k n 2 [some (.ref a0), some (.ref a1), some (.int x2), some (.int (0 : Int32)), none] [] w
set_option maxHeartbeats 4000000 in
set_option maxRecDepth 100000 in
theorem sg_Li_takesNamed_0 (X : hw_X p m c cb_Li_takesNamed 5 s args (mw_Li_takesNamed) "ProofCourt$Line" g A) {K : Nat → Nat → Nat → List (Option Value) → List Value → hw_H → Prop} {PR : Nat → Nat → Int32 → hw_H → Prop} (hK : ∀ (k n pc : Nat) (lv : List (Option Value)) (st : List Value) (w : hw_H), K k n pc lv st w → hw_J p l e R s m args below meth c Q 5 g A k n pc lv st w) (rt : ∀ {k n pc : Nat} {lv : List (Option Value)} {x : Int32} {w : hw_H}, decode cb_Li_takesNamed pc = .ok (.ireturn, 1) → PR k n x w → hw_J p l e R s m args below meth c Q 5 g A k n pc lv [.int x] w) {a0 : Nat} {a1 : Nat} {x2 : Int32} (vc : vc_Li_takesNamed_0 l g R K PR k n a0 a1 x2 w) : hw_J p l e R s m args below meth c Q 5 g A k n 0 [some (.ref a0), some (.ref a1), some (.int x2), none, none] [] w := by
  unfold vc_Li_takesNamed_0 at vc
  refine hw_iconst X (v := 0) dd_Li_takesNamed_0 (by decide) ?_
  refine hw_istore_n X dd_Li_takesNamed_1 (by decide) rfl ?_
  exact hK _ _ _ _ _ _ vc
def vc_Li_takesNamed_2 (l : Launch) (g : hw_G) (R : Room) (K : Nat → Nat → Nat → List (Option Value) → List Value → hw_H → Prop) (PR : Nat → Nat → Int32 → hw_H → Prop) (k n : Nat) (a0 : Nat) (a1 : Nat) (x2 : Int32) (x3 : Int32) (w : hw_H) : Prop := (((12 : Int32) < x3) → (PR k n (0 : Int32) w)) ∧ ((¬ (12 : Int32) < x3) → (hw_o w a1 "ProofCourt$Text" ∧ hw_ci l g R k n ym_Te_isNumber (mw_Te_isNumber) 7 [.ref a1, .int x2, .int (999 : Int32)] w (fun (k2 n3 : Nat) (x_4 : Int32) (w1 : hw_H) => ((x_4 = 0) → (PR k2 n3 (0 : Int32) w1)) ∧ ((¬ x_4 = 0) → (∃ x_5 : Int32, hw_g w1 a1 0 5 (.int x_5) ∧ (((x_5 = 0) → (hw_o w1 a1 "ProofCourt$Text" ∧ hw_cv l g R k2 n3 ym_Te_advance (mw_Te_advance) 2 [.ref a1] w1 (fun (k7 n8 : Nat) (w6 : hw_H) => ((¬ x_5 = 0) → (∃ b_9 : Nat, hw_g w6 a0 6 2 (.ref b_9) ∧ (∃ x_10 : Int32, hw_g w6 a0 6 3 (.int x_10) ∧ (∃ w11 : hw_H, hw_as g 0 w6 b_9 x_10 x_5 w11 ∧ (∃ x_12 : Int32, hw_g w11 a0 6 3 (.int x_12) ∧ (∃ w13 : hw_H, hw_p w11 a0 6 3 (.int (x_12 + (1 : Int32))) w13 ∧ (K k7 n8 2 [some (.ref a0), some (.ref a1), some (.int x2), some (.int (x3 + 1)), none] [] w13))))))) ∧ ((x_5 = 0) → (PR k7 n8 (1 : Int32) w6))))) ∧ ((¬ x_5 = 0) → (∃ x_14 : Int32, hw_g w1 a0 6 3 (.int x_14) ∧ (((x_14 < (12 : Int32)) → (hw_o w1 a1 "ProofCourt$Text" ∧ hw_cv l g R k2 n3 ym_Te_advance (mw_Te_advance) 2 [.ref a1] w1 (fun (k16 n17 : Nat) (w15 : hw_H) => ((¬ x_5 = 0) → (∃ b_18 : Nat, hw_g w15 a0 6 2 (.ref b_18) ∧ (∃ x_19 : Int32, hw_g w15 a0 6 3 (.int x_19) ∧ (∃ w20 : hw_H, hw_as g 0 w15 b_18 x_19 x_5 w20 ∧ (∃ x_21 : Int32, hw_g w20 a0 6 3 (.int x_21) ∧ (∃ w22 : hw_H, hw_p w20 a0 6 3 (.int (x_21 + (1 : Int32))) w22 ∧ (K k16 n17 2 [some (.ref a0), some (.ref a1), some (.int x2), some (.int (x3 + 1)), none] [] w22))))))) ∧ ((x_5 = 0) → (PR k16 n17 (1 : Int32) w15))))) ∧ ((¬ x_14 < (12 : Int32)) → (PR k2 n3 (0 : Int32) w1)))))))))))
set_option maxHeartbeats 4000000 in
set_option maxRecDepth 100000 in
theorem sg_Li_takesNamed_2 (X : hw_X p m c cb_Li_takesNamed 5 s args (mw_Li_takesNamed) "ProofCourt$Line" g A) {K : Nat → Nat → Nat → List (Option Value) → List Value → hw_H → Prop} {PR : Nat → Nat → Int32 → hw_H → Prop} (hK : ∀ (k n pc : Nat) (lv : List (Option Value)) (st : List Value) (w : hw_H), K k n pc lv st w → hw_J p l e R s m args below meth c Q 5 g A k n pc lv st w) (rt : ∀ {k n pc : Nat} {lv : List (Option Value)} {x : Int32} {w : hw_H}, decode cb_Li_takesNamed pc = .ok (.ireturn, 1) → PR k n x w → hw_J p l e R s m args below meth c Q 5 g A k n pc lv [.int x] w) {a0 : Nat} {a1 : Nat} {x2 : Int32} {x3 : Int32} (vc : vc_Li_takesNamed_2 l g R K PR k n a0 a1 x2 x3 w) : hw_J p l e R s m args below meth c Q 5 g A k n 2 [some (.ref a0), some (.ref a1), some (.int x2), some (.int x3), none] [] w := by
  unfold vc_Li_takesNamed_2 at vc
  refine hw_iload_n X dd_Li_takesNamed_2 rfl ?_
  refine hw_bipush X (v := 12) dd_Li_takesNamed_3 (by decide) ?_
  refine hw_icmp_gt X (tgt := 79) dd_Li_takesNamed_5 rfl (fun hc => ?_) (fun hc => ?_)
  · replace vc := vc.1 hc
    refine hw_iconst X (v := 0) dd_Li_takesNamed_79 (by decide) ?_
    exact rt dd_Li_takesNamed_80 vc
  · replace vc := vc.2 hc
    refine hw_aload_n X (Or.inr ⟨_, rfl⟩) dd_Li_takesNamed_8 rfl ?_
    refine hw_iload_n X dd_Li_takesNamed_9 rfl ?_
    refine hw_sipush X (v := 999) dd_Li_takesNamed_10 (by decide) ?_
    obtain ⟨hob, rm9, po9, hM9, hf9, hc9, vc⟩ := vc
    refine hw_callVi X (As := [.int x2, .int (999 : Int32)]) (ye_Li_60 X) hM9 rfl hf9 hc9 hob (Nat.le_of_ble_eq_true rfl) rfl dd_Li_takesNamed_13 (fun x_4 w1 hp => ?_)
    replace vc := vc x_4 w1 hp
    refine hw_if_eq X (tgt := 79) dd_Li_takesNamed_16 rfl (fun hc => ?_) (fun hc => ?_)
    · replace vc := vc.1 hc
      refine hw_iconst X (v := 0) dd_Li_takesNamed_79 (by decide) ?_
      exact rt dd_Li_takesNamed_80 vc
    · replace vc := vc.2 hc
      refine hw_aload_n X (Or.inr ⟨_, rfl⟩) dd_Li_takesNamed_19 rfl ?_
      obtain ⟨x_5, h9, vc⟩ := vc
      refine hw_get X (fe_Li_29 X) h9 dd_Li_takesNamed_20 ?_
      refine hw_istore X dd_Li_takesNamed_23 (by decide) rfl ?_
      refine hw_iload X dd_Li_takesNamed_25 rfl ?_
      refine hw_if_eq X (tgt := 41) dd_Li_takesNamed_27 rfl (fun hc => ?_) (fun hc => ?_)
      · replace vc := vc.1 hc
        refine hw_aload_n X (Or.inr ⟨_, rfl⟩) dd_Li_takesNamed_41 rfl ?_
        obtain ⟨hob, rm9, po9, hM9, hf9, hc9, vc⟩ := vc
        refine hw_callVv X (As := []) (ye_Li_66 X) hM9 rfl hf9 hc9 hob (Nat.le_of_ble_eq_true rfl) rfl dd_Li_takesNamed_42 (fun w6 hp => ?_)
        replace vc := vc w6 hp
        refine hw_iload X dd_Li_takesNamed_45 rfl ?_
        refine hw_if_ne X (tgt := 52) dd_Li_takesNamed_47 rfl (fun hc => ?_) (fun hc => ?_)
        · replace vc := vc.1 hc
          refine hw_aload_n X (Or.inr ⟨_, rfl⟩) dd_Li_takesNamed_52 rfl ?_
          obtain ⟨b_9, h9, vc⟩ := vc
          refine hw_get X (fe_Li_9 X) h9 dd_Li_takesNamed_53 ?_
          refine hw_aload_n X (Or.inr ⟨_, rfl⟩) dd_Li_takesNamed_56 rfl ?_
          obtain ⟨x_10, h9, vc⟩ := vc
          refine hw_get X (fe_Li_63 X) h9 dd_Li_takesNamed_57 ?_
          refine hw_iload X dd_Li_takesNamed_60 rfl ?_
          obtain ⟨w11, h9, vc⟩ := vc
          refine hw_iast X h9 dd_Li_takesNamed_62 ?_
          refine hw_aload_n X (Or.inr ⟨_, rfl⟩) dd_Li_takesNamed_63 rfl ?_
          refine hw_dup X rfl dd_Li_takesNamed_64 ?_
          obtain ⟨x_12, h9, vc⟩ := vc
          refine hw_get X (fe_Li_63 X) h9 dd_Li_takesNamed_65 ?_
          refine hw_iconst X (v := 1) dd_Li_takesNamed_68 (by decide) ?_
          refine hw_iadd X dd_Li_takesNamed_69 ?_
          obtain ⟨w13, h9, vc⟩ := vc
          refine hw_put X (fp_Li_63 X) rfl rfl h9 dd_Li_takesNamed_70 ?_
          refine hw_iinc X (v := (x3 + 1)) dd_Li_takesNamed_73 rfl rfl (by decide) rfl ?_
          refine hw_goto X (tgt := 2) dd_Li_takesNamed_76 rfl ?_
          exact hw_drop (lv9 := [some (.ref a0), some (.ref a1), some (.int x2), some (.int (x3 + 1)), none]) (⟨rfl, ⟨rfl, ⟨rfl, ⟨rfl, ⟨trivial, trivial⟩⟩⟩⟩⟩) (hK _ _ _ _ _ _ vc)
        · replace vc := vc.2 hc
          refine hw_iconst X (v := 1) dd_Li_takesNamed_50 (by decide) ?_
          exact rt dd_Li_takesNamed_51 vc
      · replace vc := vc.2 hc
        refine hw_aload_n X (Or.inr ⟨_, rfl⟩) dd_Li_takesNamed_30 rfl ?_
        obtain ⟨x_14, h9, vc⟩ := vc
        refine hw_get X (fe_Li_63 X) h9 dd_Li_takesNamed_31 ?_
        refine hw_bipush X (v := 12) dd_Li_takesNamed_34 (by decide) ?_
        refine hw_icmp_lt X (tgt := 41) dd_Li_takesNamed_36 rfl (fun hc => ?_) (fun hc => ?_)
        · replace vc := vc.1 hc
          refine hw_aload_n X (Or.inr ⟨_, rfl⟩) dd_Li_takesNamed_41 rfl ?_
          obtain ⟨hob, rm9, po9, hM9, hf9, hc9, vc⟩ := vc
          refine hw_callVv X (As := []) (ye_Li_66 X) hM9 rfl hf9 hc9 hob (Nat.le_of_ble_eq_true rfl) rfl dd_Li_takesNamed_42 (fun w15 hp => ?_)
          replace vc := vc w15 hp
          refine hw_iload X dd_Li_takesNamed_45 rfl ?_
          refine hw_if_ne X (tgt := 52) dd_Li_takesNamed_47 rfl (fun hc => ?_) (fun hc => ?_)
          · replace vc := vc.1 hc
            refine hw_aload_n X (Or.inr ⟨_, rfl⟩) dd_Li_takesNamed_52 rfl ?_
            obtain ⟨b_18, h9, vc⟩ := vc
            refine hw_get X (fe_Li_9 X) h9 dd_Li_takesNamed_53 ?_
            refine hw_aload_n X (Or.inr ⟨_, rfl⟩) dd_Li_takesNamed_56 rfl ?_
            obtain ⟨x_19, h9, vc⟩ := vc
            refine hw_get X (fe_Li_63 X) h9 dd_Li_takesNamed_57 ?_
            refine hw_iload X dd_Li_takesNamed_60 rfl ?_
            obtain ⟨w20, h9, vc⟩ := vc
            refine hw_iast X h9 dd_Li_takesNamed_62 ?_
            refine hw_aload_n X (Or.inr ⟨_, rfl⟩) dd_Li_takesNamed_63 rfl ?_
            refine hw_dup X rfl dd_Li_takesNamed_64 ?_
            obtain ⟨x_21, h9, vc⟩ := vc
            refine hw_get X (fe_Li_63 X) h9 dd_Li_takesNamed_65 ?_
            refine hw_iconst X (v := 1) dd_Li_takesNamed_68 (by decide) ?_
            refine hw_iadd X dd_Li_takesNamed_69 ?_
            obtain ⟨w22, h9, vc⟩ := vc
            refine hw_put X (fp_Li_63 X) rfl rfl h9 dd_Li_takesNamed_70 ?_
            refine hw_iinc X (v := (x3 + 1)) dd_Li_takesNamed_73 rfl rfl (by decide) rfl ?_
            refine hw_goto X (tgt := 2) dd_Li_takesNamed_76 rfl ?_
            exact hw_drop (lv9 := [some (.ref a0), some (.ref a1), some (.int x2), some (.int (x3 + 1)), none]) (⟨rfl, ⟨rfl, ⟨rfl, ⟨rfl, ⟨trivial, trivial⟩⟩⟩⟩⟩) (hK _ _ _ _ _ _ vc)
          · replace vc := vc.2 hc
            refine hw_iconst X (v := 1) dd_Li_takesNamed_50 (by decide) ?_
            exact rt dd_Li_takesNamed_51 vc
        · replace vc := vc.2 hc
          refine hw_iconst X (v := 0) dd_Li_takesNamed_39 (by decide) ?_
          exact rt dd_Li_takesNamed_40 vc
end
section
variable {p : Program} {l : Launch} {e : Env} {R : Room} {s : State} {m : MethodId} {args : Array Value} {below : List Frame} {meth : Method} {c : Code} {Q : State → Prop} {g : hw_G} {A : Nat → Prop} {k n : Nat} {w : hw_H}
def vc_Li_names_0 (l : Launch) (g : hw_G) (R : Room) (K : Nat → Nat → Nat → List (Option Value) → List Value → hw_H → Prop) (PR : Nat → Nat → Int32 → hw_H → Prop) (k n : Nat) (a0 : Nat) (x1 : Int32) (x2 : Int32) (w : hw_H) : Prop := K k n 2 [some (.ref a0), some (.int x1), some (.int x2), some (.int (0 : Int32))] [] w
set_option maxHeartbeats 4000000 in
set_option maxRecDepth 100000 in
theorem sg_Li_names_0 (X : hw_X p m c cb_Li_names 4 s args (mw_Li_names) "ProofCourt$Line" g A) {K : Nat → Nat → Nat → List (Option Value) → List Value → hw_H → Prop} {PR : Nat → Nat → Int32 → hw_H → Prop} (hK : ∀ (k n pc : Nat) (lv : List (Option Value)) (st : List Value) (w : hw_H), K k n pc lv st w → hw_J p l e R s m args below meth c Q 4 g A k n pc lv st w) (rt : ∀ {k n pc : Nat} {lv : List (Option Value)} {x : Int32} {w : hw_H}, decode cb_Li_names pc = .ok (.ireturn, 1) → PR k n x w → hw_J p l e R s m args below meth c Q 4 g A k n pc lv [.int x] w) {a0 : Nat} {x1 : Int32} {x2 : Int32} (vc : vc_Li_names_0 l g R K PR k n a0 x1 x2 w) : hw_J p l e R s m args below meth c Q 4 g A k n 0 [some (.ref a0), some (.int x1), some (.int x2), none] [] w := by
  unfold vc_Li_names_0 at vc
  refine hw_iconst X (v := 0) dd_Li_names_0 (by decide) ?_
  refine hw_istore_n X dd_Li_names_1 (by decide) rfl ?_
  exact hK _ _ _ _ _ _ vc
def vc_Li_names_2 (l : Launch) (g : hw_G) (R : Room) (K : Nat → Nat → Nat → List (Option Value) → List Value → hw_H → Prop) (PR : Nat → Nat → Int32 → hw_H → Prop) (k n : Nat) (a0 : Nat) (x1 : Int32) (x2 : Int32) (x3 : Int32) (w : hw_H) : Prop := ((x2 ≤ x3) → (PR k n (0 : Int32) w)) ∧ ((¬ x2 ≤ x3) → (∃ x_1 : Int32, hw_g w a0 6 3 (.int x_1) ∧ (((x_1 ≤ x3) → (PR k n (0 : Int32) w)) ∧ ((¬ x_1 ≤ x3) → (∃ b_2 : Nat, hw_g w a0 6 2 (.ref b_2) ∧ (∃ x_3 : Int32, hw_ai g 0 w b_2 x3 x_3 ∧ (((¬ x_3 = x1) → (K k n 2 [some (.ref a0), some (.int x1), some (.int x2), some (.int (x3 + 1))] [] w)) ∧ ((x_3 = x1) → (PR k n (1 : Int32) w)))))))))
set_option maxHeartbeats 4000000 in
set_option maxRecDepth 100000 in
theorem sg_Li_names_2 (X : hw_X p m c cb_Li_names 4 s args (mw_Li_names) "ProofCourt$Line" g A) {K : Nat → Nat → Nat → List (Option Value) → List Value → hw_H → Prop} {PR : Nat → Nat → Int32 → hw_H → Prop} (hK : ∀ (k n pc : Nat) (lv : List (Option Value)) (st : List Value) (w : hw_H), K k n pc lv st w → hw_J p l e R s m args below meth c Q 4 g A k n pc lv st w) (rt : ∀ {k n pc : Nat} {lv : List (Option Value)} {x : Int32} {w : hw_H}, decode cb_Li_names pc = .ok (.ireturn, 1) → PR k n x w → hw_J p l e R s m args below meth c Q 4 g A k n pc lv [.int x] w) {a0 : Nat} {x1 : Int32} {x2 : Int32} {x3 : Int32} (vc : vc_Li_names_2 l g R K PR k n a0 x1 x2 x3 w) : hw_J p l e R s m args below meth c Q 4 g A k n 2 [some (.ref a0), some (.int x1), some (.int x2), some (.int x3)] [] w := by
  unfold vc_Li_names_2 at vc
  refine hw_iload_n X dd_Li_names_2 rfl ?_
  refine hw_iload_n X dd_Li_names_3 rfl ?_
  refine hw_icmp_ge X (tgt := 33) dd_Li_names_4 rfl (fun hc => ?_) (fun hc => ?_)
  · replace vc := vc.1 hc
    refine hw_iconst X (v := 0) dd_Li_names_33 (by decide) ?_
    exact rt dd_Li_names_34 vc
  · replace vc := vc.2 hc
    refine hw_iload_n X dd_Li_names_7 rfl ?_
    refine hw_aload_n X (Or.inr ⟨_, rfl⟩) dd_Li_names_8 rfl ?_
    obtain ⟨x_1, h9, vc⟩ := vc
    refine hw_get X (fe_Li_63 X) h9 dd_Li_names_9 ?_
    refine hw_icmp_ge X (tgt := 33) dd_Li_names_12 rfl (fun hc => ?_) (fun hc => ?_)
    · replace vc := vc.1 hc
      refine hw_iconst X (v := 0) dd_Li_names_33 (by decide) ?_
      exact rt dd_Li_names_34 vc
    · replace vc := vc.2 hc
      refine hw_aload_n X (Or.inr ⟨_, rfl⟩) dd_Li_names_15 rfl ?_
      obtain ⟨b_2, h9, vc⟩ := vc
      refine hw_get X (fe_Li_9 X) h9 dd_Li_names_16 ?_
      refine hw_iload_n X dd_Li_names_19 rfl ?_
      obtain ⟨x_3, h9, vc⟩ := vc
      refine hw_iald X h9 dd_Li_names_20 ?_
      refine hw_iload_n X dd_Li_names_21 rfl ?_
      refine hw_icmp_ne X (tgt := 27) dd_Li_names_22 rfl (fun hc => ?_) (fun hc => ?_)
      · replace vc := vc.1 hc
        refine hw_iinc X (v := (x3 + 1)) dd_Li_names_27 rfl rfl (by decide) rfl ?_
        refine hw_goto X (tgt := 2) dd_Li_names_30 rfl ?_
        exact hK _ _ _ _ _ _ vc
      · replace vc := vc.2 hc
        refine hw_iconst X (v := 1) dd_Li_names_25 (by decide) ?_
        exact rt dd_Li_names_26 vc
end
section
variable {p : Program} {l : Launch} {e : Env} {R : Room} {s : State} {m : MethodId} {args : Array Value} {below : List Frame} {meth : Method} {c : Code} {Q : State → Prop} {g : hw_G} {A : Nat → Prop} {k n : Nat} {w : hw_H}
def vc_Pr_init_0 (l : Launch) (g : hw_G) (R : Room) (K : Nat → Nat → Nat → List (Option Value) → List Value → hw_H → Prop) (PR : Nat → Nat → hw_H → Prop) (k n : Nat) (a0 : Nat) (w : hw_H) : Prop := (k + 1 ≤ R.cells ∧ n + 40 ≤ R.slots) ∧ ∀ (q1 : Nat) (w2 : hw_H), w q1 = none → w2 = va_up w q1 (some (.inl (g.2.1 3, 40, .inr (.inr (.inr (.inr (fun _ => none))))))) → (∃ w3 : hw_H, hw_p w2 a0 1 0 (.ref q1) w3 ∧ (PR (k + 1) (n + 40) w3))
set_option maxHeartbeats 4000000 in
set_option maxRecDepth 100000 in
theorem sg_Pr_init_0 (X : hw_X p m c cb_Pr_init 1 s args (mw_Pr_init) "ProofCourt$Proof" g A) (hin : meth.name = "<init>") (hRm : 1 ≤ R.frames ∧ 20 ≤ R.locals) {K : Nat → Nat → Nat → List (Option Value) → List Value → hw_H → Prop} {PR : Nat → Nat → hw_H → Prop} (hK : ∀ (k n pc : Nat) (lv : List (Option Value)) (st : List Value) (w : hw_H), K k n pc lv st w → hw_J p l e R s m args below meth c Q 1 g A k n pc lv st w) (rt : ∀ {k n pc : Nat} {lv : List (Option Value)} {w : hw_H}, decode cb_Pr_init pc = .ok (.return_, 1) → PR k n w → hw_J p l e R s m args below meth c Q 1 g A k n pc lv [] w) {a0 : Nat} (vc : vc_Pr_init_0 l g R K PR k n a0 w) : hw_J p l e R s m args below meth c Q 1 g A k n 0 [some (.ref a0)] [] w := by
  unfold vc_Pr_init_0 at vc
  refine hw_aload_n X (Or.inr ⟨_, rfl⟩) dd_Pr_init_0 rfl ?_
  refine hw_objInit X (oi_Pr_3 X) (oj_Pr X) (ok_Pr X) (hw_oi1 hRm) (hw_oi2 hRm) (by decide) dd_Pr_init_1 ?_
  refine hw_aload_n X (Or.inr ⟨_, rfl⟩) dd_Pr_init_4 rfl ?_
  refine hw_bipush X (v := 40) dd_Pr_init_5 (by decide) ?_
  refine hw_newq X (N := 40) (cq_Pr_9 X) (co_Pr X) (by decide) (by decide) (by decide) vc.1.1 vc.1.2 dd_Pr_init_7 (fun q1 hq => ?_)
  replace vc := vc.2 q1 _ hq rfl
  obtain ⟨w3, h9, vc⟩ := vc
  refine hw_putF X (ff_Pr_11 X) hin rfl rfl h9 dd_Pr_init_10 ?_
  exact rt dd_Pr_init_13 vc
end
section
variable {p : Program} {l : Launch} {e : Env} {R : Room} {s : State} {m : MethodId} {args : Array Value} {below : List Frame} {meth : Method} {c : Code} {Q : State → Prop} {g : hw_G} {A : Nat → Prop} {k n : Nat} {w : hw_H}
def vc_Pr_begin_0 (l : Launch) (g : hw_G) (R : Room) (K : Nat → Nat → Nat → List (Option Value) → List Value → hw_H → Prop) (PR : Nat → Nat → hw_H → Prop) (k n : Nat) (a0 : Nat) (a1 : Nat) (w : hw_H) : Prop := K k n 2 [some (.ref a0), some (.ref a1), some (.int (0 : Int32))] [] w
set_option maxHeartbeats 4000000 in
set_option maxRecDepth 100000 in
theorem sg_Pr_begin_0 (X : hw_X p m c cb_Pr_begin 3 s args (mw_Pr_begin) "ProofCourt$Proof" g A) {K : Nat → Nat → Nat → List (Option Value) → List Value → hw_H → Prop} {PR : Nat → Nat → hw_H → Prop} (hK : ∀ (k n pc : Nat) (lv : List (Option Value)) (st : List Value) (w : hw_H), K k n pc lv st w → hw_J p l e R s m args below meth c Q 3 g A k n pc lv st w) (rt : ∀ {k n pc : Nat} {lv : List (Option Value)} {w : hw_H}, decode cb_Pr_begin pc = .ok (.return_, 1) → PR k n w → hw_J p l e R s m args below meth c Q 3 g A k n pc lv [] w) {a0 : Nat} {a1 : Nat} (vc : vc_Pr_begin_0 l g R K PR k n a0 a1 w) : hw_J p l e R s m args below meth c Q 3 g A k n 0 [some (.ref a0), some (.ref a1), none] [] w := by
  unfold vc_Pr_begin_0 at vc
  refine hw_iconst X (v := 0) dd_Pr_begin_0 (by decide) ?_
  refine hw_istore_n X dd_Pr_begin_1 (by decide) rfl ?_
  exact hK _ _ _ _ _ _ vc
def vc_Pr_begin_2 (l : Launch) (g : hw_G) (R : Room) (K : Nat → Nat → Nat → List (Option Value) → List Value → hw_H → Prop) (PR : Nat → Nat → hw_H → Prop) (k n : Nat) (a0 : Nat) (a1 : Nat) (x2 : Int32) (w : hw_H) : Prop := ∃ x_1 : Int32, hw_g w a1 3 2 (.int x_1) ∧ (((x_1 ≤ x2) → (∃ x_2 : Int32, hw_g w a1 3 2 (.int x_2) ∧ (∃ w3 : hw_H, hw_p w a0 1 1 (.int x_2) w3 ∧ (∃ x_4 : Int32, hw_g w3 a1 3 2 (.int x_4) ∧ (∃ w5 : hw_H, hw_p w3 a0 1 2 (.int x_4) w5 ∧ (∃ w6 : hw_H, hw_p w5 a0 1 3 (.int (0 : Int32)) w6 ∧ hw_b (0 : Int32) ∧ (PR k n w6))))))) ∧ ((¬ x_1 ≤ x2) → (∃ b_7 : Nat, hw_g w a0 1 0 (.ref b_7) ∧ (∃ b_8 : Nat, hw_g w a1 3 1 (.ref b_8) ∧ (∃ b_9 : Nat, hw_ar g w b_8 x2 (some b_9) ∧ (∃ w10 : hw_H, hw_aw g 5 w b_7 x2 b_9 w10 ∧ (K k n 2 [some (.ref a0), some (.ref a1), some (.int (x2 + 1))] [] w10)))))))
set_option maxHeartbeats 4000000 in
set_option maxRecDepth 100000 in
theorem sg_Pr_begin_2 (X : hw_X p m c cb_Pr_begin 3 s args (mw_Pr_begin) "ProofCourt$Proof" g A) {K : Nat → Nat → Nat → List (Option Value) → List Value → hw_H → Prop} {PR : Nat → Nat → hw_H → Prop} (hK : ∀ (k n pc : Nat) (lv : List (Option Value)) (st : List Value) (w : hw_H), K k n pc lv st w → hw_J p l e R s m args below meth c Q 3 g A k n pc lv st w) (rt : ∀ {k n pc : Nat} {lv : List (Option Value)} {w : hw_H}, decode cb_Pr_begin pc = .ok (.return_, 1) → PR k n w → hw_J p l e R s m args below meth c Q 3 g A k n pc lv [] w) {a0 : Nat} {a1 : Nat} {x2 : Int32} (vc : vc_Pr_begin_2 l g R K PR k n a0 a1 x2 w) : hw_J p l e R s m args below meth c Q 3 g A k n 2 [some (.ref a0), some (.ref a1), some (.int x2)] [] w := by
  unfold vc_Pr_begin_2 at vc
  refine hw_iload_n X dd_Pr_begin_2 rfl ?_
  refine hw_aload_n X (Or.inr ⟨_, rfl⟩) dd_Pr_begin_3 rfl ?_
  obtain ⟨x_1, h9, vc⟩ := vc
  refine hw_get X (fe_Pr_17 X) h9 dd_Pr_begin_4 ?_
  refine hw_icmp_ge X (tgt := 28) dd_Pr_begin_7 rfl (fun hc => ?_) (fun hc => ?_)
  · replace vc := vc.1 hc
    refine hw_aload_n X (Or.inr ⟨_, rfl⟩) dd_Pr_begin_28 rfl ?_
    refine hw_aload_n X (Or.inr ⟨_, rfl⟩) dd_Pr_begin_29 rfl ?_
    obtain ⟨x_2, h9, vc⟩ := vc
    refine hw_get X (fe_Pr_17 X) h9 dd_Pr_begin_30 ?_
    obtain ⟨w3, h9, vc⟩ := vc
    refine hw_put X (fp_Pr_24 X) rfl rfl h9 dd_Pr_begin_33 ?_
    refine hw_aload_n X (Or.inr ⟨_, rfl⟩) dd_Pr_begin_36 rfl ?_
    refine hw_aload_n X (Or.inr ⟨_, rfl⟩) dd_Pr_begin_37 rfl ?_
    obtain ⟨x_4, h9, vc⟩ := vc
    refine hw_get X (fe_Pr_17 X) h9 dd_Pr_begin_38 ?_
    obtain ⟨w5, h9, vc⟩ := vc
    refine hw_put X (fp_Pr_25 X) rfl rfl h9 dd_Pr_begin_41 ?_
    refine hw_aload_n X (Or.inr ⟨_, rfl⟩) dd_Pr_begin_44 rfl ?_
    refine hw_iconst X (v := 0) dd_Pr_begin_45 (by decide) ?_
    obtain ⟨w6, h9, h8, vc⟩ := vc
    refine hw_put X (fp_Pr_28 X) (hw_b_nar h8) (hw_b_fit h8) h9 dd_Pr_begin_46 ?_
    exact rt dd_Pr_begin_49 vc
  · replace vc := vc.2 hc
    refine hw_aload_n X (Or.inr ⟨_, rfl⟩) dd_Pr_begin_10 rfl ?_
    obtain ⟨b_7, h9, vc⟩ := vc
    refine hw_get X (fe_Pr_11 X) h9 dd_Pr_begin_11 ?_
    refine hw_iload_n X dd_Pr_begin_14 rfl ?_
    refine hw_aload_n X (Or.inr ⟨_, rfl⟩) dd_Pr_begin_15 rfl ?_
    obtain ⟨b_8, h9, vc⟩ := vc
    refine hw_get X (fe_Pr_23 X) h9 dd_Pr_begin_16 ?_
    refine hw_iload_n X dd_Pr_begin_19 rfl ?_
    obtain ⟨b_9, h9, vc⟩ := vc
    refine hw_aald X h9 dd_Pr_begin_20 ?_
    obtain ⟨w10, h9, vc⟩ := vc
    refine hw_aast X (ci := 5) rfl rfl h9 dd_Pr_begin_21 ?_
    refine hw_iinc X (v := (x2 + 1)) dd_Pr_begin_22 rfl rfl (by decide) rfl ?_
    refine hw_goto X (tgt := 2) dd_Pr_begin_25 rfl ?_
    exact hK _ _ _ _ _ _ vc
end
section
variable {p : Program} {l : Launch} {e : Env} {R : Room} {s : State} {m : MethodId} {args : Array Value} {below : List Frame} {meth : Method} {c : Code} {Q : State → Prop} {g : hw_G} {A : Nat → Prop} {k n : Nat} {w : hw_H}
def vc_Pr_find_0 (l : Launch) (g : hw_G) (R : Room) (K : Nat → Nat → Nat → List (Option Value) → List Value → hw_H → Prop) (PR : Nat → Nat → Option Nat → hw_H → Prop) (k n : Nat) (a0 : Nat) (x1 : Int32) (w : hw_H) : Prop := K k n 2 [some (.ref a0), some (.int x1), some (.int (0 : Int32))] [] w
set_option maxHeartbeats 4000000 in
set_option maxRecDepth 100000 in
theorem sg_Pr_find_0 (X : hw_X p m c cb_Pr_find 3 s args (mw_Pr_find) "ProofCourt$Proof" g A) {K : Nat → Nat → Nat → List (Option Value) → List Value → hw_H → Prop} {PR : Nat → Nat → Option Nat → hw_H → Prop} (hK : ∀ (k n pc : Nat) (lv : List (Option Value)) (st : List Value) (w : hw_H), K k n pc lv st w → hw_J p l e R s m args below meth c Q 3 g A k n pc lv st w) (rt : ∀ {k n pc : Nat} {lv : List (Option Value)} {o : Option Nat} {w : hw_H}, decode cb_Pr_find pc = .ok (.areturn, 1) → PR k n o w → hw_J p l e R s m args below meth c Q 3 g A k n pc lv [va_rf o] w) {a0 : Nat} {x1 : Int32} (vc : vc_Pr_find_0 l g R K PR k n a0 x1 w) : hw_J p l e R s m args below meth c Q 3 g A k n 0 [some (.ref a0), some (.int x1), none] [] w := by
  unfold vc_Pr_find_0 at vc
  refine hw_iconst X (v := 0) dd_Pr_find_0 (by decide) ?_
  refine hw_istore_n X dd_Pr_find_1 (by decide) rfl ?_
  exact hK _ _ _ _ _ _ vc
def vc_Pr_find_2 (l : Launch) (g : hw_G) (R : Room) (K : Nat → Nat → Nat → List (Option Value) → List Value → hw_H → Prop) (PR : Nat → Nat → Option Nat → hw_H → Prop) (k n : Nat) (a0 : Nat) (x1 : Int32) (x2 : Int32) (w : hw_H) : Prop := ∃ x_1 : Int32, hw_g w a0 1 1 (.int x_1) ∧ (((x_1 ≤ x2) → (PR k n (none : Option Nat) w)) ∧ ((¬ x_1 ≤ x2) → (∃ b_2 : Nat, hw_g w a0 1 0 (.ref b_2) ∧ (∃ b_3 : Nat, hw_ar g w b_2 x2 (some b_3) ∧ (∃ x_4 : Int32, hw_g w b_3 5 0 (.int x_4) ∧ (((¬ x_4 = x1) → (K k n 2 [some (.ref a0), some (.int x1), some (.int (x2 + 1))] [] w)) ∧ ((x_4 = x1) → (∃ b_5 : Nat, hw_g w a0 1 0 (.ref b_5) ∧ (∃ b_6 : Nat, hw_ar g w b_5 x2 (some b_6) ∧ (PR k n (some b_6) w))))))))))
set_option maxHeartbeats 4000000 in
set_option maxRecDepth 100000 in
theorem sg_Pr_find_2 (X : hw_X p m c cb_Pr_find 3 s args (mw_Pr_find) "ProofCourt$Proof" g A) {K : Nat → Nat → Nat → List (Option Value) → List Value → hw_H → Prop} {PR : Nat → Nat → Option Nat → hw_H → Prop} (hK : ∀ (k n pc : Nat) (lv : List (Option Value)) (st : List Value) (w : hw_H), K k n pc lv st w → hw_J p l e R s m args below meth c Q 3 g A k n pc lv st w) (rt : ∀ {k n pc : Nat} {lv : List (Option Value)} {o : Option Nat} {w : hw_H}, decode cb_Pr_find pc = .ok (.areturn, 1) → PR k n o w → hw_J p l e R s m args below meth c Q 3 g A k n pc lv [va_rf o] w) {a0 : Nat} {x1 : Int32} {x2 : Int32} (vc : vc_Pr_find_2 l g R K PR k n a0 x1 x2 w) : hw_J p l e R s m args below meth c Q 3 g A k n 2 [some (.ref a0), some (.int x1), some (.int x2)] [] w := by
  unfold vc_Pr_find_2 at vc
  refine hw_iload_n X dd_Pr_find_2 rfl ?_
  refine hw_aload_n X (Or.inr ⟨_, rfl⟩) dd_Pr_find_3 rfl ?_
  obtain ⟨x_1, h9, vc⟩ := vc
  refine hw_get X (fe_Pr_24 X) h9 dd_Pr_find_4 ?_
  refine hw_icmp_ge X (tgt := 36) dd_Pr_find_7 rfl (fun hc => ?_) (fun hc => ?_)
  · replace vc := vc.1 hc
    refine hw_null X dd_Pr_find_36 ?_
    exact rt (o := (none : Option Nat)) dd_Pr_find_37 vc
  · replace vc := vc.2 hc
    refine hw_aload_n X (Or.inr ⟨_, rfl⟩) dd_Pr_find_10 rfl ?_
    obtain ⟨b_2, h9, vc⟩ := vc
    refine hw_get X (fe_Pr_11 X) h9 dd_Pr_find_11 ?_
    refine hw_iload_n X dd_Pr_find_14 rfl ?_
    obtain ⟨b_3, h9, vc⟩ := vc
    refine hw_aald X h9 dd_Pr_find_15 ?_
    obtain ⟨x_4, h9, vc⟩ := vc
    refine hw_get X (fe_Pr_32 X) h9 dd_Pr_find_16 ?_
    refine hw_iload_n X dd_Pr_find_19 rfl ?_
    refine hw_icmp_ne X (tgt := 30) dd_Pr_find_20 rfl (fun hc => ?_) (fun hc => ?_)
    · replace vc := vc.1 hc
      refine hw_iinc X (v := (x2 + 1)) dd_Pr_find_30 rfl rfl (by decide) rfl ?_
      refine hw_goto X (tgt := 2) dd_Pr_find_33 rfl ?_
      exact hK _ _ _ _ _ _ vc
    · replace vc := vc.2 hc
      refine hw_aload_n X (Or.inr ⟨_, rfl⟩) dd_Pr_find_23 rfl ?_
      obtain ⟨b_5, h9, vc⟩ := vc
      refine hw_get X (fe_Pr_11 X) h9 dd_Pr_find_24 ?_
      refine hw_iload_n X dd_Pr_find_27 rfl ?_
      obtain ⟨b_6, h9, vc⟩ := vc
      refine hw_aald X h9 dd_Pr_find_28 ?_
      exact rt (o := (some b_6)) dd_Pr_find_29 vc
end
section
variable {p : Program} {l : Launch} {e : Env} {R : Room} {s : State} {m : MethodId} {args : Array Value} {below : List Frame} {meth : Method} {c : Code} {Q : State → Prop} {g : hw_G} {A : Nat → Prop} {k n : Nat} {w : hw_H}
def vc_Pr_delete_0 (l : Launch) (g : hw_G) (R : Room) (K : Nat → Nat → Nat → List (Option Value) → List Value → hw_H → Prop) (PR : Nat → Nat → Int32 → hw_H → Prop) (k n : Nat) (a0 : Nat) (a1 : Nat) (w : hw_H) : Prop := K k n 2 [some (.ref a0), some (.ref a1), some (.int (0 : Int32)), none] [] w
set_option maxHeartbeats 4000000 in
set_option maxRecDepth 100000 in
theorem sg_Pr_delete_0 (X : hw_X p m c cb_Pr_delete 4 s args (mw_Pr_delete) "ProofCourt$Proof" g A) {K : Nat → Nat → Nat → List (Option Value) → List Value → hw_H → Prop} {PR : Nat → Nat → Int32 → hw_H → Prop} (hK : ∀ (k n pc : Nat) (lv : List (Option Value)) (st : List Value) (w : hw_H), K k n pc lv st w → hw_J p l e R s m args below meth c Q 4 g A k n pc lv st w) (rt : ∀ {k n pc : Nat} {lv : List (Option Value)} {x : Int32} {w : hw_H}, decode cb_Pr_delete pc = .ok (.ireturn, 1) → PR k n x w → hw_J p l e R s m args below meth c Q 4 g A k n pc lv [.int x] w) {a0 : Nat} {a1 : Nat} (vc : vc_Pr_delete_0 l g R K PR k n a0 a1 w) : hw_J p l e R s m args below meth c Q 4 g A k n 0 [some (.ref a0), some (.ref a1), none, none] [] w := by
  unfold vc_Pr_delete_0 at vc
  refine hw_iconst X (v := 0) dd_Pr_delete_0 (by decide) ?_
  refine hw_istore_n X dd_Pr_delete_1 (by decide) rfl ?_
  exact hK _ _ _ _ _ _ vc
def vc_Pr_delete_2 (l : Launch) (g : hw_G) (R : Room) (K : Nat → Nat → Nat → List (Option Value) → List Value → hw_H → Prop) (PR : Nat → Nat → Int32 → hw_H → Prop) (k n : Nat) (a0 : Nat) (a1 : Nat) (x2 : Int32) (w : hw_H) : Prop := ∃ x_1 : Int32, hw_g w a1 6 3 (.int x_1) ∧ (((x_1 ≤ x2) → (K k n 51 [some (.ref a0), some (.ref a1), some (.int (0 : Int32)), some (.int (0 : Int32))] [] w)) ∧ ((¬ x_1 ≤ x2) → (∃ b_2 : Nat, hw_g w a1 6 2 (.ref b_2) ∧ (∃ x_3 : Int32, hw_ai g 0 w b_2 x2 x_3 ∧ (hw_o w a0 "ProofCourt$Proof" ∧ hw_cq l g R k n ym_Pr_find (mw_Pr_find) 3 [.ref a0, .int x_3] w (fun (k5 n6 : Nat) (o_7 : Option Nat) (w4 : hw_H) => (o_7 = none → (PR k5 n6 (-2000 : Int32) w4)) ∧ (∀ q8 : Nat, o_7 = some q8 → (∃ b_9 : Nat, hw_g w4 a1 6 2 (.ref b_9) ∧ (∃ x_10 : Int32, hw_ai g 0 w4 b_9 x2 x_10 ∧ (hw_o w4 a1 "ProofCourt$Line" ∧ hw_ci l g R k5 n6 ym_Li_names (mw_Li_names) 4 [.ref a1, .int x_10, .int x2] w4 (fun (k12 n13 : Nat) (x_14 : Int32) (w11 : hw_H) => ((x_14 = 0) → (K k12 n13 2 [some (.ref a0), some (.ref a1), some (.int (x2 + 1)), none] [] w11)) ∧ ((¬ x_14 = 0) → (PR k12 n13 (-2000 : Int32) w11)))))))))))))
set_option maxHeartbeats 4000000 in
set_option maxRecDepth 100000 in
theorem sg_Pr_delete_2 (X : hw_X p m c cb_Pr_delete 4 s args (mw_Pr_delete) "ProofCourt$Proof" g A) {K : Nat → Nat → Nat → List (Option Value) → List Value → hw_H → Prop} {PR : Nat → Nat → Int32 → hw_H → Prop} (hK : ∀ (k n pc : Nat) (lv : List (Option Value)) (st : List Value) (w : hw_H), K k n pc lv st w → hw_J p l e R s m args below meth c Q 4 g A k n pc lv st w) (rt : ∀ {k n pc : Nat} {lv : List (Option Value)} {x : Int32} {w : hw_H}, decode cb_Pr_delete pc = .ok (.ireturn, 1) → PR k n x w → hw_J p l e R s m args below meth c Q 4 g A k n pc lv [.int x] w) {a0 : Nat} {a1 : Nat} {x2 : Int32} (vc : vc_Pr_delete_2 l g R K PR k n a0 a1 x2 w) : hw_J p l e R s m args below meth c Q 4 g A k n 2 [some (.ref a0), some (.ref a1), some (.int x2), none] [] w := by
  unfold vc_Pr_delete_2 at vc
  refine hw_iload_n X dd_Pr_delete_2 rfl ?_
  refine hw_aload_n X (Or.inr ⟨_, rfl⟩) dd_Pr_delete_3 rfl ?_
  obtain ⟨x_1, h9, vc⟩ := vc
  refine hw_get X (fe_Pr_35 X) h9 dd_Pr_delete_4 ?_
  refine hw_icmp_ge X (tgt := 47) dd_Pr_delete_7 rfl (fun hc => ?_) (fun hc => ?_)
  · replace vc := vc.1 hc
    refine hw_iconst X (v := 0) dd_Pr_delete_47 (by decide) ?_
    refine hw_istore_n X dd_Pr_delete_48 (by decide) rfl ?_
    refine hw_iconst X (v := 0) dd_Pr_delete_49 (by decide) ?_
    refine hw_istore_n X dd_Pr_delete_50 (by decide) rfl ?_
    exact hK _ _ _ _ _ _ vc
  · replace vc := vc.2 hc
    refine hw_aload_n X (Or.inr ⟨_, rfl⟩) dd_Pr_delete_10 rfl ?_
    refine hw_aload_n X (Or.inr ⟨_, rfl⟩) dd_Pr_delete_11 rfl ?_
    obtain ⟨b_2, h9, vc⟩ := vc
    refine hw_get X (fe_Pr_38 X) h9 dd_Pr_delete_12 ?_
    refine hw_iload_n X dd_Pr_delete_15 rfl ?_
    obtain ⟨x_3, h9, vc⟩ := vc
    refine hw_iald X h9 dd_Pr_delete_16 ?_
    obtain ⟨hob, rm9, po9, hM9, hf9, hc9, vc⟩ := vc
    refine hw_callVq X (As := [.int x_3]) (ye_Pr_42 X) hM9 rfl hf9 hc9 hob (Nat.le_of_ble_eq_true rfl) rfl dd_Pr_delete_17 (fun o_7 w4 hp => ?_)
    replace vc := vc o_7 w4 hp
    refine hw_ifnull X (tgt := 37) dd_Pr_delete_20 rfl (fun hc => ?_) (fun q8 hc => ?_)
    · replace vc := vc.1 hc
      refine hw_sipush X (v := -2000) dd_Pr_delete_37 (by decide) ?_
      exact rt dd_Pr_delete_40 vc
    · replace vc := vc.2 q8 hc
      subst hc
      refine hw_aload_n X (Or.inr ⟨_, rfl⟩) dd_Pr_delete_23 rfl ?_
      refine hw_aload_n X (Or.inr ⟨_, rfl⟩) dd_Pr_delete_24 rfl ?_
      obtain ⟨b_9, h9, vc⟩ := vc
      refine hw_get X (fe_Pr_38 X) h9 dd_Pr_delete_25 ?_
      refine hw_iload_n X dd_Pr_delete_28 rfl ?_
      obtain ⟨x_10, h9, vc⟩ := vc
      refine hw_iald X h9 dd_Pr_delete_29 ?_
      refine hw_iload_n X dd_Pr_delete_30 rfl ?_
      obtain ⟨hob, rm9, po9, hM9, hf9, hc9, vc⟩ := vc
      refine hw_callVi X (As := [.int x_10, .int x2]) (ye_Pr_46 X) hM9 rfl hf9 hc9 hob (Nat.le_of_ble_eq_true rfl) rfl dd_Pr_delete_31 (fun x_14 w11 hp => ?_)
      replace vc := vc x_14 w11 hp
      refine hw_if_eq X (tgt := 41) dd_Pr_delete_34 rfl (fun hc => ?_) (fun hc => ?_)
      · replace vc := vc.1 hc
        refine hw_iinc X (v := (x2 + 1)) dd_Pr_delete_41 rfl rfl (by decide) rfl ?_
        refine hw_goto X (tgt := 2) dd_Pr_delete_44 rfl ?_
        exact hK _ _ _ _ _ _ vc
      · replace vc := vc.2 hc
        refine hw_sipush X (v := -2000) dd_Pr_delete_37 (by decide) ?_
        exact rt dd_Pr_delete_40 vc
def vc_Pr_delete_51 (l : Launch) (g : hw_G) (R : Room) (K : Nat → Nat → Nat → List (Option Value) → List Value → hw_H → Prop) (PR : Nat → Nat → Int32 → hw_H → Prop) (k n : Nat) (a0 : Nat) (a1 : Nat) (x2 : Int32) (x3 : Int32) (w : hw_H) : Prop := ∃ x_1 : Int32, hw_g w a0 1 1 (.int x_1) ∧ (((x_1 ≤ x3) → (∃ w2 : hw_H, hw_p w a0 1 1 (.int x2) w2 ∧ (PR k n (1 : Int32) w2))) ∧ ((¬ x_1 ≤ x3) → (∃ b_3 : Nat, hw_g w a0 1 0 (.ref b_3) ∧ (∃ b_4 : Nat, hw_ar g w b_3 x3 (some b_4) ∧ (∃ x_5 : Int32, hw_g w b_4 5 0 (.int x_5) ∧ (∃ x_6 : Int32, hw_g w a1 6 3 (.int x_6) ∧ (hw_o w a1 "ProofCourt$Line" ∧ hw_ci l g R k n ym_Li_names (mw_Li_names) 4 [.ref a1, .int x_5, .int x_6] w (fun (k8 n9 : Nat) (x_10 : Int32) (w7 : hw_H) => ((¬ x_10 = 0) → (K k8 n9 51 [some (.ref a0), some (.ref a1), some (.int x2), some (.int (x3 + 1))] [] w7)) ∧ ((x_10 = 0) → (∃ b_11 : Nat, hw_g w7 a0 1 0 (.ref b_11) ∧ (∃ b_12 : Nat, hw_g w7 a0 1 0 (.ref b_12) ∧ (∃ b_13 : Nat, hw_ar g w7 b_12 x3 (some b_13) ∧ (∃ w14 : hw_H, hw_aw g 5 w7 b_11 x2 b_13 w14 ∧ (K k8 n9 51 [some (.ref a0), some (.ref a1), some (.int (x2 + 1)), some (.int (x3 + 1))] [] w14))))))))))))))
set_option maxHeartbeats 4000000 in
set_option maxRecDepth 100000 in
theorem sg_Pr_delete_51 (X : hw_X p m c cb_Pr_delete 4 s args (mw_Pr_delete) "ProofCourt$Proof" g A) {K : Nat → Nat → Nat → List (Option Value) → List Value → hw_H → Prop} {PR : Nat → Nat → Int32 → hw_H → Prop} (hK : ∀ (k n pc : Nat) (lv : List (Option Value)) (st : List Value) (w : hw_H), K k n pc lv st w → hw_J p l e R s m args below meth c Q 4 g A k n pc lv st w) (rt : ∀ {k n pc : Nat} {lv : List (Option Value)} {x : Int32} {w : hw_H}, decode cb_Pr_delete pc = .ok (.ireturn, 1) → PR k n x w → hw_J p l e R s m args below meth c Q 4 g A k n pc lv [.int x] w) {a0 : Nat} {a1 : Nat} {x2 : Int32} {x3 : Int32} (vc : vc_Pr_delete_51 l g R K PR k n a0 a1 x2 x3 w) : hw_J p l e R s m args below meth c Q 4 g A k n 51 [some (.ref a0), some (.ref a1), some (.int x2), some (.int x3)] [] w := by
  unfold vc_Pr_delete_51 at vc
  refine hw_iload_n X dd_Pr_delete_51 rfl ?_
  refine hw_aload_n X (Or.inr ⟨_, rfl⟩) dd_Pr_delete_52 rfl ?_
  obtain ⟨x_1, h9, vc⟩ := vc
  refine hw_get X (fe_Pr_24 X) h9 dd_Pr_delete_53 ?_
  refine hw_icmp_ge X (tgt := 100) dd_Pr_delete_56 rfl (fun hc => ?_) (fun hc => ?_)
  · replace vc := vc.1 hc
    refine hw_aload_n X (Or.inr ⟨_, rfl⟩) dd_Pr_delete_100 rfl ?_
    refine hw_iload_n X dd_Pr_delete_101 rfl ?_
    obtain ⟨w2, h9, vc⟩ := vc
    refine hw_put X (fp_Pr_24 X) rfl rfl h9 dd_Pr_delete_102 ?_
    refine hw_iconst X (v := 1) dd_Pr_delete_105 (by decide) ?_
    exact rt dd_Pr_delete_106 vc
  · replace vc := vc.2 hc
    refine hw_aload_n X (Or.inr ⟨_, rfl⟩) dd_Pr_delete_59 rfl ?_
    refine hw_aload_n X (Or.inr ⟨_, rfl⟩) dd_Pr_delete_60 rfl ?_
    obtain ⟨b_3, h9, vc⟩ := vc
    refine hw_get X (fe_Pr_11 X) h9 dd_Pr_delete_61 ?_
    refine hw_iload_n X dd_Pr_delete_64 rfl ?_
    obtain ⟨b_4, h9, vc⟩ := vc
    refine hw_aald X h9 dd_Pr_delete_65 ?_
    obtain ⟨x_5, h9, vc⟩ := vc
    refine hw_get X (fe_Pr_32 X) h9 dd_Pr_delete_66 ?_
    refine hw_aload_n X (Or.inr ⟨_, rfl⟩) dd_Pr_delete_69 rfl ?_
    obtain ⟨x_6, h9, vc⟩ := vc
    refine hw_get X (fe_Pr_35 X) h9 dd_Pr_delete_70 ?_
    obtain ⟨hob, rm9, po9, hM9, hf9, hc9, vc⟩ := vc
    refine hw_callVi X (As := [.int x_5, .int x_6]) (ye_Pr_46 X) hM9 rfl hf9 hc9 hob (Nat.le_of_ble_eq_true rfl) rfl dd_Pr_delete_73 (fun x_10 w7 hp => ?_)
    replace vc := vc x_10 w7 hp
    refine hw_if_ne X (tgt := 94) dd_Pr_delete_76 rfl (fun hc => ?_) (fun hc => ?_)
    · replace vc := vc.1 hc
      refine hw_iinc X (v := (x3 + 1)) dd_Pr_delete_94 rfl rfl (by decide) rfl ?_
      refine hw_goto X (tgt := 51) dd_Pr_delete_97 rfl ?_
      exact hK _ _ _ _ _ _ vc
    · replace vc := vc.2 hc
      refine hw_aload_n X (Or.inr ⟨_, rfl⟩) dd_Pr_delete_79 rfl ?_
      obtain ⟨b_11, h9, vc⟩ := vc
      refine hw_get X (fe_Pr_11 X) h9 dd_Pr_delete_80 ?_
      refine hw_iload_n X dd_Pr_delete_83 rfl ?_
      refine hw_aload_n X (Or.inr ⟨_, rfl⟩) dd_Pr_delete_84 rfl ?_
      obtain ⟨b_12, h9, vc⟩ := vc
      refine hw_get X (fe_Pr_11 X) h9 dd_Pr_delete_85 ?_
      refine hw_iload_n X dd_Pr_delete_88 rfl ?_
      obtain ⟨b_13, h9, vc⟩ := vc
      refine hw_aald X h9 dd_Pr_delete_89 ?_
      obtain ⟨w14, h9, vc⟩ := vc
      refine hw_aast X (ci := 5) rfl rfl h9 dd_Pr_delete_90 ?_
      refine hw_iinc X (v := (x2 + 1)) dd_Pr_delete_91 rfl rfl (by decide) rfl ?_
      refine hw_iinc X (v := (x3 + 1)) dd_Pr_delete_94 rfl rfl (by decide) rfl ?_
      refine hw_goto X (tgt := 51) dd_Pr_delete_97 rfl ?_
      exact hK _ _ _ _ _ _ vc
end
section
variable {p : Program} {l : Launch} {e : Env} {R : Room} {s : State} {m : MethodId} {args : Array Value} {below : List Frame} {meth : Method} {c : Code} {Q : State → Prop} {g : hw_G} {A : Nat → Prop} {k n : Nat} {w : hw_H}
def vc_Pr_add_0 (l : Launch) (g : hw_G) (R : Room) (K : Nat → Nat → Nat → List (Option Value) → List Value → hw_H → Prop) (PR : Nat → Nat → Int32 → hw_H → Prop) (k n : Nat) (a0 : Nat) (a1 : Nat) (w : hw_H) : Prop := ∃ x_1 : Int32, hw_g w a1 6 0 (.int x_1) ∧ (∃ x_2 : Int32, hw_g w a0 1 2 (.int x_2) ∧ (((x_1 ≤ x_2) → (PR k n (-2000 : Int32) w)) ∧ ((¬ x_1 ≤ x_2) → (∃ x_3 : Int32, hw_g w a0 1 1 (.int x_3) ∧ (((x_3 < (40 : Int32)) → ((k + 1 ≤ R.cells ∧ n + 4 ≤ R.slots) ∧ ∀ (q4 : Nat) (w5 : hw_H), w q4 = none → w5 = va_up w q4 (some (.inr (7, [.null, .null, .int 0, .int 0]))) → (hw_cv l g R (k + 1) (n + 4) ym_Ck_init (mw_Ck_init) 3 [.ref q4, .ref a0, .ref a1] w5 (fun (k7 n8 : Nat) (w6 : hw_H) => hw_o w6 q4 "ProofCourt$Check" ∧ hw_ci l g R k7 n8 ym_Ck_outcome (mw_Ck_outcome) 3 [.ref q4] w6 (fun (k10 n11 : Nat) (x_12 : Int32) (w9 : hw_H) => ((x_12 = (-3 : Int32)) → (∃ b_13 : Nat, hw_g w9 a0 1 0 (.ref b_13) ∧ (∃ x_14 : Int32, hw_g w9 a0 1 1 (.int x_14) ∧ (∃ b_15 : Nat, hw_g w9 a1 6 1 (.ref b_15) ∧ (∃ w16 : hw_H, hw_aw g 5 w9 b_13 x_14 b_15 w16 ∧ (∃ x_17 : Int32, hw_g w16 a0 1 1 (.int x_17) ∧ (∃ w18 : hw_H, hw_p w16 a0 1 1 (.int (x_17 + (1 : Int32))) w18 ∧ (∃ x_19 : Int32, hw_g w18 a1 6 0 (.int x_19) ∧ (∃ w20 : hw_H, hw_p w18 a0 1 2 (.int x_19) w20 ∧ (∃ x_21 : Int32, hw_g w20 a0 1 3 (.int x_21) ∧ (((¬ x_21 = 0) → (∃ w22 : hw_H, hw_p w20 a0 1 3 (.int (1 : Int32)) w22 ∧ hw_b (1 : Int32) ∧ (PR k10 n11 (1 : Int32) w22))) ∧ ((x_21 = 0) → (∃ b_23 : Nat, hw_g w20 a1 6 1 (.ref b_23) ∧ (∃ x_24 : Int32, hw_g w20 b_23 5 2 (.int x_24) ∧ (((¬ x_24 = 0) → (∃ w25 : hw_H, hw_p w20 a0 1 3 (.int (0 : Int32)) w25 ∧ hw_b (0 : Int32) ∧ (PR k10 n11 (1 : Int32) w25))) ∧ ((x_24 = 0) → (∃ w26 : hw_H, hw_p w20 a0 1 3 (.int (1 : Int32)) w26 ∧ hw_b (1 : Int32) ∧ (PR k10 n11 (1 : Int32) w26)))))))))))))))))) ∧ ((¬ x_12 = (-3 : Int32)) → (PR k10 n11 ((-1000 : Int32) - x_12) w9))))))) ∧ ((¬ x_3 < (40 : Int32)) → (PR k n (-2000 : Int32) w)))))))
set_option maxHeartbeats 4000000 in
set_option maxRecDepth 100000 in
theorem sg_Pr_add_0 (X : hw_X p m c cb_Pr_add 3 s args (mw_Pr_add) "ProofCourt$Proof" g A) {K : Nat → Nat → Nat → List (Option Value) → List Value → hw_H → Prop} {PR : Nat → Nat → Int32 → hw_H → Prop} (hK : ∀ (k n pc : Nat) (lv : List (Option Value)) (st : List Value) (w : hw_H), K k n pc lv st w → hw_J p l e R s m args below meth c Q 3 g A k n pc lv st w) (rt : ∀ {k n pc : Nat} {lv : List (Option Value)} {x : Int32} {w : hw_H}, decode cb_Pr_add pc = .ok (.ireturn, 1) → PR k n x w → hw_J p l e R s m args below meth c Q 3 g A k n pc lv [.int x] w) {a0 : Nat} {a1 : Nat} (vc : vc_Pr_add_0 l g R K PR k n a0 a1 w) : hw_J p l e R s m args below meth c Q 3 g A k n 0 [some (.ref a0), some (.ref a1), none] [] w := by
  unfold vc_Pr_add_0 at vc
  refine hw_aload_n X (Or.inr ⟨_, rfl⟩) dd_Pr_add_0 rfl ?_
  obtain ⟨x_1, h9, vc⟩ := vc
  refine hw_get X (fe_Pr_50 X) h9 dd_Pr_add_1 ?_
  refine hw_aload_n X (Or.inr ⟨_, rfl⟩) dd_Pr_add_4 rfl ?_
  obtain ⟨x_2, h9, vc⟩ := vc
  refine hw_get X (fe_Pr_25 X) h9 dd_Pr_add_5 ?_
  refine hw_icmp_le X (tgt := 20) dd_Pr_add_8 rfl (fun hc => ?_) (fun hc => ?_)
  · replace vc := vc.1 hc
    refine hw_sipush X (v := -2000) dd_Pr_add_20 (by decide) ?_
    exact rt dd_Pr_add_23 vc
  · replace vc := vc.2 hc
    refine hw_aload_n X (Or.inr ⟨_, rfl⟩) dd_Pr_add_11 rfl ?_
    obtain ⟨x_3, h9, vc⟩ := vc
    refine hw_get X (fe_Pr_24 X) h9 dd_Pr_add_12 ?_
    refine hw_bipush X (v := 40) dd_Pr_add_15 (by decide) ?_
    refine hw_icmp_lt X (tgt := 24) dd_Pr_add_17 rfl (fun hc => ?_) (fun hc => ?_)
    · replace vc := vc.1 hc
      refine hw_new X (ne_Pr_51 X) vc.1.1 vc.1.2 dd_Pr_add_24 (fun q4 hq => ?_)
      replace vc := vc.2 q4 _ hq rfl
      refine hw_dup X rfl dd_Pr_add_27 ?_
      refine hw_aload_n X (Or.inr ⟨_, rfl⟩) dd_Pr_add_28 rfl ?_
      refine hw_aload_n X (Or.inr ⟨_, rfl⟩) dd_Pr_add_29 rfl ?_
      obtain ⟨rm9, po9, hM9, hf9, hc9, vc⟩ := vc
      refine hw_callIv X (As := [.ref a0, .ref a1]) (ye_Pr_53 X) hM9 rfl hf9 hc9 (Nat.le_of_ble_eq_true rfl) rfl dd_Pr_add_30 (fun w6 hp => ?_)
      replace vc := vc w6 hp
      obtain ⟨hob, rm9, po9, hM9, hf9, hc9, vc⟩ := vc
      refine hw_callVi X (As := []) (ye_Pr_56 X) hM9 rfl hf9 hc9 hob (Nat.le_of_ble_eq_true rfl) rfl dd_Pr_add_33 (fun x_12 w9 hp => ?_)
      replace vc := vc x_12 w9 hp
      refine hw_istore_n X dd_Pr_add_36 (by decide) rfl ?_
      refine hw_iload_n X dd_Pr_add_37 rfl ?_
      refine hw_bipush X (v := -3) dd_Pr_add_38 (by decide) ?_
      refine hw_icmp_eq X (tgt := 49) dd_Pr_add_40 rfl (fun hc => ?_) (fun hc => ?_)
      · replace vc := vc.1 hc
        refine hw_aload_n X (Or.inr ⟨_, rfl⟩) dd_Pr_add_49 rfl ?_
        obtain ⟨b_13, h9, vc⟩ := vc
        refine hw_get X (fe_Pr_11 X) h9 dd_Pr_add_50 ?_
        refine hw_aload_n X (Or.inr ⟨_, rfl⟩) dd_Pr_add_53 rfl ?_
        obtain ⟨x_14, h9, vc⟩ := vc
        refine hw_get X (fe_Pr_24 X) h9 dd_Pr_add_54 ?_
        refine hw_aload_n X (Or.inr ⟨_, rfl⟩) dd_Pr_add_57 rfl ?_
        obtain ⟨b_15, h9, vc⟩ := vc
        refine hw_get X (fe_Pr_60 X) h9 dd_Pr_add_58 ?_
        obtain ⟨w16, h9, vc⟩ := vc
        refine hw_aast X (ci := 5) rfl rfl h9 dd_Pr_add_61 ?_
        refine hw_aload_n X (Or.inr ⟨_, rfl⟩) dd_Pr_add_62 rfl ?_
        refine hw_dup X rfl dd_Pr_add_63 ?_
        obtain ⟨x_17, h9, vc⟩ := vc
        refine hw_get X (fe_Pr_24 X) h9 dd_Pr_add_64 ?_
        refine hw_iconst X (v := 1) dd_Pr_add_67 (by decide) ?_
        refine hw_iadd X dd_Pr_add_68 ?_
        obtain ⟨w18, h9, vc⟩ := vc
        refine hw_put X (fp_Pr_24 X) rfl rfl h9 dd_Pr_add_69 ?_
        refine hw_aload_n X (Or.inr ⟨_, rfl⟩) dd_Pr_add_72 rfl ?_
        refine hw_aload_n X (Or.inr ⟨_, rfl⟩) dd_Pr_add_73 rfl ?_
        obtain ⟨x_19, h9, vc⟩ := vc
        refine hw_get X (fe_Pr_50 X) h9 dd_Pr_add_74 ?_
        obtain ⟨w20, h9, vc⟩ := vc
        refine hw_put X (fp_Pr_25 X) rfl rfl h9 dd_Pr_add_77 ?_
        refine hw_aload_n X (Or.inr ⟨_, rfl⟩) dd_Pr_add_80 rfl ?_
        refine hw_aload_n X (Or.inr ⟨_, rfl⟩) dd_Pr_add_81 rfl ?_
        obtain ⟨x_21, h9, vc⟩ := vc
        refine hw_get X (fe_Pr_28 X) h9 dd_Pr_add_82 ?_
        refine hw_if_ne X (tgt := 98) dd_Pr_add_85 rfl (fun hc => ?_) (fun hc => ?_)
        · replace vc := vc.1 hc
          refine hw_iconst X (v := 1) dd_Pr_add_98 (by decide) ?_
          refine hw_goto X (tgt := 103) dd_Pr_add_99 rfl ?_
          obtain ⟨w22, h9, h8, vc⟩ := vc
          refine hw_put X (fp_Pr_28 X) (hw_b_nar h8) (hw_b_fit h8) h9 dd_Pr_add_103 ?_
          refine hw_iconst X (v := 1) dd_Pr_add_106 (by decide) ?_
          exact rt dd_Pr_add_107 vc
        · replace vc := vc.2 hc
          refine hw_aload_n X (Or.inr ⟨_, rfl⟩) dd_Pr_add_88 rfl ?_
          obtain ⟨b_23, h9, vc⟩ := vc
          refine hw_get X (fe_Pr_60 X) h9 dd_Pr_add_89 ?_
          obtain ⟨x_24, h9, vc⟩ := vc
          refine hw_get X (fe_Pr_64 X) h9 dd_Pr_add_92 ?_
          refine hw_if_ne X (tgt := 102) dd_Pr_add_95 rfl (fun hc => ?_) (fun hc => ?_)
          · replace vc := vc.1 hc
            refine hw_iconst X (v := 0) dd_Pr_add_102 (by decide) ?_
            obtain ⟨w25, h9, h8, vc⟩ := vc
            refine hw_put X (fp_Pr_28 X) (hw_b_nar h8) (hw_b_fit h8) h9 dd_Pr_add_103 ?_
            refine hw_iconst X (v := 1) dd_Pr_add_106 (by decide) ?_
            exact rt dd_Pr_add_107 vc
          · replace vc := vc.2 hc
            refine hw_iconst X (v := 1) dd_Pr_add_98 (by decide) ?_
            refine hw_goto X (tgt := 103) dd_Pr_add_99 rfl ?_
            obtain ⟨w26, h9, h8, vc⟩ := vc
            refine hw_put X (fp_Pr_28 X) (hw_b_nar h8) (hw_b_fit h8) h9 dd_Pr_add_103 ?_
            refine hw_iconst X (v := 1) dd_Pr_add_106 (by decide) ?_
            exact rt dd_Pr_add_107 vc
      · replace vc := vc.2 hc
        refine hw_sipush X (v := -1000) dd_Pr_add_43 (by decide) ?_
        refine hw_iload_n X dd_Pr_add_46 rfl ?_
        refine hw_isub X dd_Pr_add_47 ?_
        exact rt dd_Pr_add_48 vc
    · replace vc := vc.2 hc
      refine hw_sipush X (v := -2000) dd_Pr_add_20 (by decide) ?_
      exact rt dd_Pr_add_23 vc
end
section
variable {p : Program} {l : Launch} {e : Env} {R : Room} {s : State} {m : MethodId} {args : Array Value} {below : List Frame} {meth : Method} {c : Code} {Q : State → Prop} {g : hw_G} {A : Nat → Prop} {k n : Nat} {w : hw_H}
def vc_Ck_init_0 (l : Launch) (g : hw_G) (R : Room) (K : Nat → Nat → Nat → List (Option Value) → List Value → hw_H → Prop) (PR : Nat → Nat → hw_H → Prop) (k n : Nat) (a0 : Nat) (a1 : Nat) (a2 : Nat) (w : hw_H) : Prop := ∃ w1 : hw_H, hw_p w a0 7 0 (.ref a1) w1 ∧ (∃ w2 : hw_H, hw_p w1 a0 7 1 (.ref a2) w2 ∧ (PR k n w2))
set_option maxHeartbeats 4000000 in
set_option maxRecDepth 100000 in
theorem sg_Ck_init_0 (X : hw_X p m c cb_Ck_init 3 s args (mw_Ck_init) "ProofCourt$Check" g A) (hin : meth.name = "<init>") (hRm : 1 ≤ R.frames ∧ 20 ≤ R.locals) {K : Nat → Nat → Nat → List (Option Value) → List Value → hw_H → Prop} {PR : Nat → Nat → hw_H → Prop} (hK : ∀ (k n pc : Nat) (lv : List (Option Value)) (st : List Value) (w : hw_H), K k n pc lv st w → hw_J p l e R s m args below meth c Q 3 g A k n pc lv st w) (rt : ∀ {k n pc : Nat} {lv : List (Option Value)} {w : hw_H}, decode cb_Ck_init pc = .ok (.return_, 1) → PR k n w → hw_J p l e R s m args below meth c Q 3 g A k n pc lv [] w) {a0 : Nat} {a1 : Nat} {a2 : Nat} (vc : vc_Ck_init_0 l g R K PR k n a0 a1 a2 w) : hw_J p l e R s m args below meth c Q 3 g A k n 0 [some (.ref a0), some (.ref a1), some (.ref a2)] [] w := by
  unfold vc_Ck_init_0 at vc
  refine hw_aload_n X (Or.inr ⟨_, rfl⟩) dd_Ck_init_0 rfl ?_
  refine hw_objInit X (oi_Ck_3 X) (oj_Ck X) (ok_Ck X) (hw_oi1 hRm) (hw_oi2 hRm) (by decide) dd_Ck_init_1 ?_
  refine hw_aload_n X (Or.inr ⟨_, rfl⟩) dd_Ck_init_4 rfl ?_
  refine hw_aload_n X (Or.inr ⟨_, rfl⟩) dd_Ck_init_5 rfl ?_
  obtain ⟨w1, h9, vc⟩ := vc
  refine hw_putF X (ff_Ck_9 X) hin rfl rfl h9 dd_Ck_init_6 ?_
  refine hw_aload_n X (Or.inr ⟨_, rfl⟩) dd_Ck_init_9 rfl ?_
  refine hw_aload_n X (Or.inr ⟨_, rfl⟩) dd_Ck_init_10 rfl ?_
  obtain ⟨w2, h9, vc⟩ := vc
  refine hw_putF X (ff_Ck_15 X) hin rfl rfl h9 dd_Ck_init_11 ?_
  exact rt dd_Ck_init_14 vc
end
section
variable {p : Program} {l : Launch} {e : Env} {R : Room} {s : State} {m : MethodId} {args : Array Value} {below : List Frame} {meth : Method} {c : Code} {Q : State → Prop} {g : hw_G} {A : Nat → Prop} {k n : Nat} {w : hw_H}
def vc_Ck_outcome_0 (l : Launch) (g : hw_G) (R : Room) (K : Nat → Nat → Nat → List (Option Value) → List Value → hw_H → Prop) (PR : Nat → Nat → Int32 → hw_H → Prop) (k n : Nat) (a0 : Nat) (w : hw_H) : Prop := ∃ b_1 : Nat, hw_g w a0 7 1 (.ref b_1) ∧ (∃ b_2 : Nat, hw_g w b_1 6 1 (.ref b_2) ∧ (∃ x_3 : Int32, hw_g w b_2 5 3 (.int x_3) ∧ (hw_ci l g R k n ym_Co_opposites (mw_Co_opposites) 1 [.int x_3] w (fun (k5 n6 : Nat) (x_7 : Int32) (w4 : hw_H) => ∃ w8 : hw_H, hw_p w4 a0 7 2 (.int x_7) w8 ∧ (∃ x_9 : Int32, hw_g w8 a0 7 2 (.int x_9) ∧ ((((x_3 &&& x_9) = 0) → (hw_o w8 a0 "ProofCourt$Check" ∧ hw_ci l g R k5 n6 ym_Ck_followHints (mw_Ck_followHints) 3 [.ref a0] w8 (fun (k11 n12 : Nat) (x_13 : Int32) (w10 : hw_H) => ((¬ x_13 = (-1 : Int32)) → (((x_13 = (-2 : Int32)) → (∃ x_14 : Int32, hw_g w10 a0 7 3 (.int x_14) ∧ (PR k11 n12 x_14 w10))) ∧ ((¬ x_13 = (-2 : Int32)) → (∃ b_15 : Nat, hw_g w10 a0 7 1 (.ref b_15) ∧ (∃ b_16 : Nat, hw_g w10 b_15 6 1 (.ref b_16) ∧ (∃ x_17 : Int32, hw_g w10 b_16 5 2 (.int x_17) ∧ (((x_17 ≤ 0) → (∃ x_18 : Int32, hw_g w10 a0 7 3 (.int x_18) ∧ (PR k11 n12 x_18 w10))) ∧ ((¬ x_17 ≤ 0) → (hw_o w10 a0 "ProofCourt$Check" ∧ hw_ci l g R k11 n12 ym_Ck_groupsHold (mw_Ck_groupsHold) 6 [.ref a0] w10 (fun (k20 n21 : Nat) (x_22 : Int32) (w19 : hw_H) => ((x_22 = 0) → (∃ x_23 : Int32, hw_g w19 a0 7 3 (.int x_23) ∧ (PR k20 n21 x_23 w19))) ∧ ((¬ x_22 = 0) → (PR k20 n21 (-3 : Int32) w19)))))))))))) ∧ ((x_13 = (-1 : Int32)) → (PR k11 n12 (-3 : Int32) w10))))) ∧ ((¬ (x_3 &&& x_9) = 0) → (PR k5 n6 (-3 : Int32) w8))))))))
set_option maxHeartbeats 4000000 in
set_option maxRecDepth 100000 in
theorem sg_Ck_outcome_0 (X : hw_X p m c cb_Ck_outcome 3 s args (mw_Ck_outcome) "ProofCourt$Check" g A) {K : Nat → Nat → Nat → List (Option Value) → List Value → hw_H → Prop} {PR : Nat → Nat → Int32 → hw_H → Prop} (hK : ∀ (k n pc : Nat) (lv : List (Option Value)) (st : List Value) (w : hw_H), K k n pc lv st w → hw_J p l e R s m args below meth c Q 3 g A k n pc lv st w) (rt : ∀ {k n pc : Nat} {lv : List (Option Value)} {x : Int32} {w : hw_H}, decode cb_Ck_outcome pc = .ok (.ireturn, 1) → PR k n x w → hw_J p l e R s m args below meth c Q 3 g A k n pc lv [.int x] w) {a0 : Nat} (vc : vc_Ck_outcome_0 l g R K PR k n a0 w) : hw_J p l e R s m args below meth c Q 3 g A k n 0 [some (.ref a0), none, none] [] w := by
  unfold vc_Ck_outcome_0 at vc
  refine hw_aload_n X (Or.inr ⟨_, rfl⟩) dd_Ck_outcome_0 rfl ?_
  obtain ⟨b_1, h9, vc⟩ := vc
  refine hw_get X (fe_Ck_15 X) h9 dd_Ck_outcome_1 ?_
  obtain ⟨b_2, h9, vc⟩ := vc
  refine hw_get X (fe_Ck_19 X) h9 dd_Ck_outcome_4 ?_
  obtain ⟨x_3, h9, vc⟩ := vc
  refine hw_get X (fe_Ck_25 X) h9 dd_Ck_outcome_7 ?_
  refine hw_istore_n X dd_Ck_outcome_10 (by decide) rfl ?_
  refine hw_aload_n X (Or.inr ⟨_, rfl⟩) dd_Ck_outcome_11 rfl ?_
  refine hw_iload_n X dd_Ck_outcome_12 rfl ?_
  obtain ⟨rm9, po9, hM9, hf9, hc9, vc⟩ := vc
  refine hw_callSi X (As := [.int x_3]) (ye_Ck_31 X) hM9 rfl hf9 hc9 (Nat.le_of_ble_eq_true rfl) rfl dd_Ck_outcome_13 (fun x_7 w4 hp => ?_)
  replace vc := vc x_7 w4 hp
  obtain ⟨w8, h9, vc⟩ := vc
  refine hw_put X (fp_Ck_35 X) rfl rfl h9 dd_Ck_outcome_16 ?_
  refine hw_iload_n X dd_Ck_outcome_19 rfl ?_
  refine hw_aload_n X (Or.inr ⟨_, rfl⟩) dd_Ck_outcome_20 rfl ?_
  obtain ⟨x_9, h9, vc⟩ := vc
  refine hw_get X (fe_Ck_35 X) h9 dd_Ck_outcome_21 ?_
  refine hw_iand X dd_Ck_outcome_24 ?_
  refine hw_if_eq X (tgt := 31) dd_Ck_outcome_25 rfl (fun hc => ?_) (fun hc => ?_)
  · replace vc := vc.1 hc
    refine hw_aload_n X (Or.inr ⟨_, rfl⟩) dd_Ck_outcome_31 rfl ?_
    obtain ⟨hob, rm9, po9, hM9, hf9, hc9, vc⟩ := vc
    refine hw_callVi X (As := []) (ye_Ck_38 X) hM9 rfl hf9 hc9 hob (Nat.le_of_ble_eq_true rfl) rfl dd_Ck_outcome_32 (fun x_13 w10 hp => ?_)
    replace vc := vc x_13 w10 hp
    refine hw_istore_n X dd_Ck_outcome_35 (by decide) rfl ?_
    refine hw_iload_n X dd_Ck_outcome_36 rfl ?_
    refine hw_iconst X (v := -1) dd_Ck_outcome_37 (by decide) ?_
    refine hw_icmp_ne X (tgt := 44) dd_Ck_outcome_38 rfl (fun hc => ?_) (fun hc => ?_)
    · replace vc := vc.1 hc
      refine hw_iload_n X dd_Ck_outcome_44 rfl ?_
      refine hw_bipush X (v := -2) dd_Ck_outcome_45 (by decide) ?_
      refine hw_icmp_eq X (tgt := 75) dd_Ck_outcome_47 rfl (fun hc => ?_) (fun hc => ?_)
      · replace vc := vc.1 hc
        refine hw_aload_n X (Or.inr ⟨_, rfl⟩) dd_Ck_outcome_75 rfl ?_
        obtain ⟨x_14, h9, vc⟩ := vc
        refine hw_get X (fe_Ck_49 X) h9 dd_Ck_outcome_76 ?_
        exact rt dd_Ck_outcome_79 vc
      · replace vc := vc.2 hc
        refine hw_aload_n X (Or.inr ⟨_, rfl⟩) dd_Ck_outcome_50 rfl ?_
        obtain ⟨b_15, h9, vc⟩ := vc
        refine hw_get X (fe_Ck_15 X) h9 dd_Ck_outcome_51 ?_
        obtain ⟨b_16, h9, vc⟩ := vc
        refine hw_get X (fe_Ck_19 X) h9 dd_Ck_outcome_54 ?_
        obtain ⟨x_17, h9, vc⟩ := vc
        refine hw_get X (fe_Ck_42 X) h9 dd_Ck_outcome_57 ?_
        refine hw_if_le X (tgt := 75) dd_Ck_outcome_60 rfl (fun hc => ?_) (fun hc => ?_)
        · replace vc := vc.1 hc
          refine hw_aload_n X (Or.inr ⟨_, rfl⟩) dd_Ck_outcome_75 rfl ?_
          obtain ⟨x_18, h9, vc⟩ := vc
          refine hw_get X (fe_Ck_49 X) h9 dd_Ck_outcome_76 ?_
          exact rt dd_Ck_outcome_79 vc
        · replace vc := vc.2 hc
          refine hw_aload_n X (Or.inr ⟨_, rfl⟩) dd_Ck_outcome_63 rfl ?_
          obtain ⟨hob, rm9, po9, hM9, hf9, hc9, vc⟩ := vc
          refine hw_callVi X (As := []) (ye_Ck_45 X) hM9 rfl hf9 hc9 hob (Nat.le_of_ble_eq_true rfl) rfl dd_Ck_outcome_64 (fun x_22 w19 hp => ?_)
          replace vc := vc x_22 w19 hp
          refine hw_if_eq X (tgt := 75) dd_Ck_outcome_67 rfl (fun hc => ?_) (fun hc => ?_)
          · replace vc := vc.1 hc
            refine hw_aload_n X (Or.inr ⟨_, rfl⟩) dd_Ck_outcome_75 rfl ?_
            obtain ⟨x_23, h9, vc⟩ := vc
            refine hw_get X (fe_Ck_49 X) h9 dd_Ck_outcome_76 ?_
            exact rt dd_Ck_outcome_79 vc
          · replace vc := vc.2 hc
            refine hw_bipush X (v := -3) dd_Ck_outcome_70 (by decide) ?_
            refine hw_goto X (tgt := 79) dd_Ck_outcome_72 rfl ?_
            exact rt dd_Ck_outcome_79 vc
    · replace vc := vc.2 hc
      refine hw_bipush X (v := -3) dd_Ck_outcome_41 (by decide) ?_
      exact rt dd_Ck_outcome_43 vc
  · replace vc := vc.2 hc
    refine hw_bipush X (v := -3) dd_Ck_outcome_28 (by decide) ?_
    exact rt dd_Ck_outcome_30 vc
end
section
variable {p : Program} {l : Launch} {e : Env} {R : Room} {s : State} {m : MethodId} {args : Array Value} {below : List Frame} {meth : Method} {c : Code} {Q : State → Prop} {g : hw_G} {A : Nat → Prop} {k n : Nat} {w : hw_H}
def vc_Ck_followHints_0 (l : Launch) (g : hw_G) (R : Room) (K : Nat → Nat → Nat → List (Option Value) → List Value → hw_H → Prop) (PR : Nat → Nat → Int32 → hw_H → Prop) (k n : Nat) (a0 : Nat) (w : hw_H) : Prop := ∃ x_1 : Int32, hw_g w a0 7 3 (.int x_1) ∧ (∃ b_2 : Nat, hw_g w a0 7 1 (.ref b_2) ∧ (∃ x_3 : Int32, hw_g w b_2 6 3 (.int x_3) ∧ (((x_3 ≤ x_1) → (∃ x_4 : Int32, hw_g w a0 7 2 (.int x_4) ∧ (PR k n x_4 w))) ∧ ((¬ x_3 ≤ x_1) → (∃ b_5 : Nat, hw_g w a0 7 1 (.ref b_5) ∧ (∃ b_6 : Nat, hw_g w b_5 6 2 (.ref b_6) ∧ (∃ x_7 : Int32, hw_g w a0 7 3 (.int x_7) ∧ (∃ x_8 : Int32, hw_ai g 0 w b_6 x_7 x_8 ∧ (((x_8 ≤ 0) → (∃ x_9 : Int32, hw_g w a0 7 2 (.int x_9) ∧ (PR k n x_9 w))) ∧ ((¬ x_8 ≤ 0) → (∃ b_10 : Nat, hw_g w a0 7 0 (.ref b_10) ∧ (∃ b_11 : Nat, hw_g w a0 7 1 (.ref b_11) ∧ (∃ b_12 : Nat, hw_g w b_11 6 2 (.ref b_12) ∧ (∃ x_13 : Int32, hw_g w a0 7 3 (.int x_13) ∧ (∃ x_14 : Int32, hw_ai g 0 w b_12 x_13 x_14 ∧ (hw_o w b_10 "ProofCourt$Proof" ∧ hw_cq l g R k n ym_Pr_find (mw_Pr_find) 3 [.ref b_10, .int x_14] w (fun (k16 n17 : Nat) (o_18 : Option Nat) (w15 : hw_H) => (o_18 = none → (PR k16 n17 (-2 : Int32) w15)) ∧ (∀ q19 : Nat, o_18 = some q19 → (∃ x_20 : Int32, hw_g w15 q19 5 3 (.int x_20) ∧ (∃ x_21 : Int32, hw_g w15 a0 7 2 (.int x_21) ∧ (hw_ci l g R k16 n17 ym_Co_follow (mw_Co_follow) 3 [.int x_20, .int x_21] w15 (fun (k23 n24 : Nat) (x_25 : Int32) (w22 : hw_H) => ((0 ≤ x_25) → (∃ w26 : hw_H, hw_p w22 a0 7 2 (.int x_25) w26 ∧ (∃ x_27 : Int32, hw_g w26 a0 7 3 (.int x_27) ∧ (∃ w28 : hw_H, hw_p w26 a0 7 3 (.int (x_27 + (1 : Int32))) w28 ∧ (K k23 n24 0 [some (.ref a0), none, none] [] w28))))) ∧ ((¬ 0 ≤ x_25) → (PR k23 n24 x_25 w22))))))))))))))))))))))))
set_option maxHeartbeats 4000000 in
set_option maxRecDepth 100000 in
theorem sg_Ck_followHints_0 (X : hw_X p m c cb_Ck_followHints 3 s args (mw_Ck_followHints) "ProofCourt$Check" g A) {K : Nat → Nat → Nat → List (Option Value) → List Value → hw_H → Prop} {PR : Nat → Nat → Int32 → hw_H → Prop} (hK : ∀ (k n pc : Nat) (lv : List (Option Value)) (st : List Value) (w : hw_H), K k n pc lv st w → hw_J p l e R s m args below meth c Q 3 g A k n pc lv st w) (rt : ∀ {k n pc : Nat} {lv : List (Option Value)} {x : Int32} {w : hw_H}, decode cb_Ck_followHints pc = .ok (.ireturn, 1) → PR k n x w → hw_J p l e R s m args below meth c Q 3 g A k n pc lv [.int x] w) {a0 : Nat} (vc : vc_Ck_followHints_0 l g R K PR k n a0 w) : hw_J p l e R s m args below meth c Q 3 g A k n 0 [some (.ref a0), none, none] [] w := by
  unfold vc_Ck_followHints_0 at vc
  refine hw_aload_n X (Or.inr ⟨_, rfl⟩) dd_Ck_followHints_0 rfl ?_
  obtain ⟨x_1, h9, vc⟩ := vc
  refine hw_get X (fe_Ck_49 X) h9 dd_Ck_followHints_1 ?_
  refine hw_aload_n X (Or.inr ⟨_, rfl⟩) dd_Ck_followHints_4 rfl ?_
  obtain ⟨b_2, h9, vc⟩ := vc
  refine hw_get X (fe_Ck_15 X) h9 dd_Ck_followHints_5 ?_
  obtain ⟨x_3, h9, vc⟩ := vc
  refine hw_get X (fe_Ck_52 X) h9 dd_Ck_followHints_8 ?_
  refine hw_icmp_ge X (tgt := 94) dd_Ck_followHints_11 rfl (fun hc => ?_) (fun hc => ?_)
  · replace vc := vc.1 hc
    refine hw_aload_n X (Or.inr ⟨_, rfl⟩) dd_Ck_followHints_94 rfl ?_
    obtain ⟨x_4, h9, vc⟩ := vc
    refine hw_get X (fe_Ck_35 X) h9 dd_Ck_followHints_95 ?_
    exact rt dd_Ck_followHints_98 vc
  · replace vc := vc.2 hc
    refine hw_aload_n X (Or.inr ⟨_, rfl⟩) dd_Ck_followHints_14 rfl ?_
    obtain ⟨b_5, h9, vc⟩ := vc
    refine hw_get X (fe_Ck_15 X) h9 dd_Ck_followHints_15 ?_
    obtain ⟨b_6, h9, vc⟩ := vc
    refine hw_get X (fe_Ck_53 X) h9 dd_Ck_followHints_18 ?_
    refine hw_aload_n X (Or.inr ⟨_, rfl⟩) dd_Ck_followHints_21 rfl ?_
    obtain ⟨x_7, h9, vc⟩ := vc
    refine hw_get X (fe_Ck_49 X) h9 dd_Ck_followHints_22 ?_
    obtain ⟨x_8, h9, vc⟩ := vc
    refine hw_iald X h9 dd_Ck_followHints_25 ?_
    refine hw_if_le X (tgt := 94) dd_Ck_followHints_26 rfl (fun hc => ?_) (fun hc => ?_)
    · replace vc := vc.1 hc
      refine hw_aload_n X (Or.inr ⟨_, rfl⟩) dd_Ck_followHints_94 rfl ?_
      obtain ⟨x_9, h9, vc⟩ := vc
      refine hw_get X (fe_Ck_35 X) h9 dd_Ck_followHints_95 ?_
      exact rt dd_Ck_followHints_98 vc
    · replace vc := vc.2 hc
      refine hw_aload_n X (Or.inr ⟨_, rfl⟩) dd_Ck_followHints_29 rfl ?_
      obtain ⟨b_10, h9, vc⟩ := vc
      refine hw_get X (fe_Ck_9 X) h9 dd_Ck_followHints_30 ?_
      refine hw_aload_n X (Or.inr ⟨_, rfl⟩) dd_Ck_followHints_33 rfl ?_
      obtain ⟨b_11, h9, vc⟩ := vc
      refine hw_get X (fe_Ck_15 X) h9 dd_Ck_followHints_34 ?_
      obtain ⟨b_12, h9, vc⟩ := vc
      refine hw_get X (fe_Ck_53 X) h9 dd_Ck_followHints_37 ?_
      refine hw_aload_n X (Or.inr ⟨_, rfl⟩) dd_Ck_followHints_40 rfl ?_
      obtain ⟨x_13, h9, vc⟩ := vc
      refine hw_get X (fe_Ck_49 X) h9 dd_Ck_followHints_41 ?_
      obtain ⟨x_14, h9, vc⟩ := vc
      refine hw_iald X h9 dd_Ck_followHints_44 ?_
      obtain ⟨hob, rm9, po9, hM9, hf9, hc9, vc⟩ := vc
      refine hw_callVq X (As := [.int x_14]) (ye_Ck_57 X) hM9 rfl hf9 hc9 hob (Nat.le_of_ble_eq_true rfl) rfl dd_Ck_followHints_45 (fun o_18 w15 hp => ?_)
      replace vc := vc o_18 w15 hp
      refine hw_astore_n X (va_rf_or _) dd_Ck_followHints_48 (by decide) rfl ?_
      refine hw_aload_n X (va_rf_or _) dd_Ck_followHints_49 rfl ?_
      refine hw_ifnonnull X (tgt := 58) dd_Ck_followHints_50 rfl (fun q19 hc => ?_) (fun hc => ?_)
      · replace vc := vc.2 q19 hc
        subst hc
        refine hw_aload_n X (Or.inr ⟨_, rfl⟩) dd_Ck_followHints_58 rfl ?_
        obtain ⟨x_20, h9, vc⟩ := vc
        refine hw_get X (fe_Ck_25 X) h9 dd_Ck_followHints_59 ?_
        refine hw_aload_n X (Or.inr ⟨_, rfl⟩) dd_Ck_followHints_62 rfl ?_
        obtain ⟨x_21, h9, vc⟩ := vc
        refine hw_get X (fe_Ck_35 X) h9 dd_Ck_followHints_63 ?_
        obtain ⟨rm9, po9, hM9, hf9, hc9, vc⟩ := vc
        refine hw_callSi X (As := [.int x_20, .int x_21]) (ye_Ck_63 X) hM9 rfl hf9 hc9 (Nat.le_of_ble_eq_true rfl) rfl dd_Ck_followHints_66 (fun x_25 w22 hp => ?_)
        replace vc := vc x_25 w22 hp
        refine hw_istore_n X dd_Ck_followHints_69 (by decide) rfl ?_
        refine hw_iload_n X dd_Ck_followHints_70 rfl ?_
        refine hw_if_ge X (tgt := 76) dd_Ck_followHints_71 rfl (fun hc => ?_) (fun hc => ?_)
        · replace vc := vc.1 hc
          refine hw_aload_n X (Or.inr ⟨_, rfl⟩) dd_Ck_followHints_76 rfl ?_
          refine hw_iload_n X dd_Ck_followHints_77 rfl ?_
          obtain ⟨w26, h9, vc⟩ := vc
          refine hw_put X (fp_Ck_35 X) rfl rfl h9 dd_Ck_followHints_78 ?_
          refine hw_aload_n X (Or.inr ⟨_, rfl⟩) dd_Ck_followHints_81 rfl ?_
          refine hw_dup X rfl dd_Ck_followHints_82 ?_
          obtain ⟨x_27, h9, vc⟩ := vc
          refine hw_get X (fe_Ck_49 X) h9 dd_Ck_followHints_83 ?_
          refine hw_iconst X (v := 1) dd_Ck_followHints_86 (by decide) ?_
          refine hw_iadd X dd_Ck_followHints_87 ?_
          obtain ⟨w28, h9, vc⟩ := vc
          refine hw_put X (fp_Ck_49 X) rfl rfl h9 dd_Ck_followHints_88 ?_
          refine hw_goto X (tgt := 0) dd_Ck_followHints_91 rfl ?_
          exact hw_drop (lv9 := [some (.ref a0), none, none]) (⟨rfl, ⟨trivial, ⟨trivial, trivial⟩⟩⟩) (hK _ _ _ _ _ _ vc)
        · replace vc := vc.2 hc
          refine hw_iload_n X dd_Ck_followHints_74 rfl ?_
          exact rt dd_Ck_followHints_75 vc
      · replace vc := vc.1 hc
        refine hw_bipush X (v := -2) dd_Ck_followHints_53 (by decide) ?_
        refine hw_goto X (tgt := 69) dd_Ck_followHints_55 rfl ?_
        refine hw_istore_n X dd_Ck_followHints_69 (by decide) rfl ?_
        refine hw_iload_n X dd_Ck_followHints_70 rfl ?_
        refine hw_if_ge X (tgt := 76) dd_Ck_followHints_71 rfl (fun hc => absurd hc (by decide)) (fun _ => ?_)
        refine hw_iload_n X dd_Ck_followHints_74 rfl ?_
        exact rt dd_Ck_followHints_75 vc
end
section
variable {p : Program} {l : Launch} {e : Env} {R : Room} {s : State} {m : MethodId} {args : Array Value} {below : List Frame} {meth : Method} {c : Code} {Q : State → Prop} {g : hw_G} {A : Nat → Prop} {k n : Nat} {w : hw_H}
def vc_Ck_groupsHold_0 (l : Launch) (g : hw_G) (R : Room) (K : Nat → Nat → Nat → List (Option Value) → List Value → hw_H → Prop) (PR : Nat → Nat → Int32 → hw_H → Prop) (k n : Nat) (a0 : Nat) (w : hw_H) : Prop := ∃ b_1 : Nat, hw_g w a0 7 1 (.ref b_1) ∧ (∃ b_2 : Nat, hw_g w b_1 6 1 (.ref b_2) ∧ (∃ b_3 : Nat, hw_g w b_2 5 1 (.ref b_3) ∧ (∃ x_4 : Int32, hw_ai g 0 w b_3 (0 : Int32) x_4 ∧ (hw_ci l g R k n ym_Co_bit (mw_Co_bit) 1 [.int (-x_4)] w (fun (k6 n7 : Nat) (x_8 : Int32) (w5 : hw_H) => ∃ x_9 : Int32, hw_g w5 a0 7 2 (.int x_9) ∧ (K k6 n7 24 [some (.ref a0), some (.int x_8), some (.int x_9), some (.int (0 : Int32)), none, none] [] w5))))))
set_option maxHeartbeats 4000000 in
set_option maxRecDepth 100000 in
theorem sg_Ck_groupsHold_0 (X : hw_X p m c cb_Ck_groupsHold 6 s args (mw_Ck_groupsHold) "ProofCourt$Check" g A) {K : Nat → Nat → Nat → List (Option Value) → List Value → hw_H → Prop} {PR : Nat → Nat → Int32 → hw_H → Prop} (hK : ∀ (k n pc : Nat) (lv : List (Option Value)) (st : List Value) (w : hw_H), K k n pc lv st w → hw_J p l e R s m args below meth c Q 6 g A k n pc lv st w) (rt : ∀ {k n pc : Nat} {lv : List (Option Value)} {x : Int32} {w : hw_H}, decode cb_Ck_groupsHold pc = .ok (.ireturn, 1) → PR k n x w → hw_J p l e R s m args below meth c Q 6 g A k n pc lv [.int x] w) {a0 : Nat} (vc : vc_Ck_groupsHold_0 l g R K PR k n a0 w) : hw_J p l e R s m args below meth c Q 6 g A k n 0 [some (.ref a0), none, none, none, none, none] [] w := by
  unfold vc_Ck_groupsHold_0 at vc
  refine hw_aload_n X (Or.inr ⟨_, rfl⟩) dd_Ck_groupsHold_0 rfl ?_
  obtain ⟨b_1, h9, vc⟩ := vc
  refine hw_get X (fe_Ck_15 X) h9 dd_Ck_groupsHold_1 ?_
  obtain ⟨b_2, h9, vc⟩ := vc
  refine hw_get X (fe_Ck_19 X) h9 dd_Ck_groupsHold_4 ?_
  obtain ⟨b_3, h9, vc⟩ := vc
  refine hw_get X (fe_Ck_67 X) h9 dd_Ck_groupsHold_7 ?_
  refine hw_iconst X (v := 0) dd_Ck_groupsHold_10 (by decide) ?_
  obtain ⟨x_4, h9, vc⟩ := vc
  refine hw_iald X h9 dd_Ck_groupsHold_11 ?_
  refine hw_ineg X dd_Ck_groupsHold_12 ?_
  obtain ⟨rm9, po9, hM9, hf9, hc9, vc⟩ := vc
  refine hw_callSi X (As := [.int (-x_4)]) (ye_Ck_70 X) hM9 rfl hf9 hc9 (Nat.le_of_ble_eq_true rfl) rfl dd_Ck_groupsHold_13 (fun x_8 w5 hp => ?_)
  replace vc := vc x_8 w5 hp
  refine hw_istore_n X dd_Ck_groupsHold_16 (by decide) rfl ?_
  refine hw_aload_n X (Or.inr ⟨_, rfl⟩) dd_Ck_groupsHold_17 rfl ?_
  obtain ⟨x_9, h9, vc⟩ := vc
  refine hw_get X (fe_Ck_35 X) h9 dd_Ck_groupsHold_18 ?_
  refine hw_istore_n X dd_Ck_groupsHold_21 (by decide) rfl ?_
  refine hw_iconst X (v := 0) dd_Ck_groupsHold_22 (by decide) ?_
  refine hw_istore_n X dd_Ck_groupsHold_23 (by decide) rfl ?_
  exact hK _ _ _ _ _ _ vc
def vc_Ck_groupsHold_24 (l : Launch) (g : hw_G) (R : Room) (K : Nat → Nat → Nat → List (Option Value) → List Value → hw_H → Prop) (PR : Nat → Nat → Int32 → hw_H → Prop) (k n : Nat) (a0 : Nat) (x1 : Int32) (x2 : Int32) (x3 : Int32) (w : hw_H) : Prop := ∃ b_1 : Nat, hw_g w a0 7 0 (.ref b_1) ∧ (∃ x_2 : Int32, hw_g w b_1 1 1 (.int x_2) ∧ (((x_2 ≤ x3) → (∃ x_3 : Int32, hw_g w a0 7 3 (.int x_3) ∧ (∃ b_4 : Nat, hw_g w a0 7 1 (.ref b_4) ∧ (∃ x_5 : Int32, hw_g w b_4 6 3 (.int x_5) ∧ (((x_3 < x_5) → (PR k n (0 : Int32) w)) ∧ ((¬ x_3 < x_5) → (PR k n (1 : Int32) w))))))) ∧ ((¬ x_2 ≤ x3) → (∃ b_6 : Nat, hw_g w a0 7 0 (.ref b_6) ∧ (∃ b_7 : Nat, hw_g w b_6 1 0 (.ref b_7) ∧ (∃ b_8 : Nat, hw_ar g w b_7 x3 (some b_8) ∧ (∃ x_9 : Int32, hw_g w b_8 5 3 (.int x_9) ∧ (((¬ (x_9 &&& x1) = 0) → (∃ x_10 : Int32, hw_g w a0 7 3 (.int x_10) ∧ (∃ b_11 : Nat, hw_g w a0 7 1 (.ref b_11) ∧ (∃ x_12 : Int32, hw_g w b_11 6 3 (.int x_12) ∧ (((x_12 ≤ x_10) → (PR k n (0 : Int32) w)) ∧ ((¬ x_12 ≤ x_10) → (∃ b_13 : Nat, hw_g w a0 7 1 (.ref b_13) ∧ (∃ b_14 : Nat, hw_g w b_13 6 2 (.ref b_14) ∧ (∃ x_15 : Int32, hw_g w a0 7 3 (.int x_15) ∧ (∃ x_16 : Int32, hw_ai g 0 w b_14 x_15 x_16 ∧ (∃ x_17 : Int32, hw_g w b_8 5 0 (.int x_17) ∧ (((x_16 = (-x_17)) → (∃ x_18 : Int32, hw_g w a0 7 3 (.int x_18) ∧ (∃ w19 : hw_H, hw_p w a0 7 3 (.int (x_18 + (1 : Int32))) w19 ∧ (∃ x_20 : Int32, hw_g w19 b_8 5 3 (.int x_20) ∧ (∀ y21 : Int32, y21 = (x_20 &&& (x1 ^^^ (-1 : Int32))) → (hw_ci l g R k n ym_Co_opposites (mw_Co_opposites) 1 [.int y21] w19 (fun (k23 n24 : Nat) (x_25 : Int32) (w22 : hw_H) => ∃ w26 : hw_H, hw_p w22 a0 7 2 (.int (x2 ||| x_25)) w26 ∧ (∃ x_27 : Int32, hw_g w26 a0 7 2 (.int x_27) ∧ (((¬ (y21 &&& x_27) = 0) → (hw_o w26 a0 "ProofCourt$Check" ∧ hw_cv l g R k23 n24 ym_Ck_skipHints (mw_Ck_skipHints) 1 [.ref a0] w26 (fun (k29 n30 : Nat) (w28 : hw_H) => K k29 n30 24 [some (.ref a0), some (.int x1), some (.int x2), some (.int (x3 + 1)), none, none] [] w28))) ∧ (((y21 &&& x_27) = 0) → (hw_o w26 a0 "ProofCourt$Check" ∧ hw_ci l g R k23 n24 ym_Ck_followHints (mw_Ck_followHints) 3 [.ref a0] w26 (fun (k32 n33 : Nat) (x_34 : Int32) (w31 : hw_H) => ((x_34 = (-1 : Int32)) → (hw_o w31 a0 "ProofCourt$Check" ∧ hw_cv l g R k32 n33 ym_Ck_skipHints (mw_Ck_skipHints) 1 [.ref a0] w31 (fun (k36 n37 : Nat) (w35 : hw_H) => K k36 n37 24 [some (.ref a0), some (.int x1), some (.int x2), some (.int (x3 + 1)), none, none] [] w35))) ∧ ((¬ x_34 = (-1 : Int32)) → (PR k32 n33 (0 : Int32) w31)))))))))))))) ∧ ((¬ x_16 = (-x_17)) → (PR k n (0 : Int32) w)))))))))))))) ∧ (((x_9 &&& x1) = 0) → (K k n 24 [some (.ref a0), some (.int x1), some (.int x2), some (.int (x3 + 1)), none, none] [] w))))))))))
set_option maxHeartbeats 4000000 in
set_option maxRecDepth 100000 in
theorem sg_Ck_groupsHold_24 (X : hw_X p m c cb_Ck_groupsHold 6 s args (mw_Ck_groupsHold) "ProofCourt$Check" g A) {K : Nat → Nat → Nat → List (Option Value) → List Value → hw_H → Prop} {PR : Nat → Nat → Int32 → hw_H → Prop} (hK : ∀ (k n pc : Nat) (lv : List (Option Value)) (st : List Value) (w : hw_H), K k n pc lv st w → hw_J p l e R s m args below meth c Q 6 g A k n pc lv st w) (rt : ∀ {k n pc : Nat} {lv : List (Option Value)} {x : Int32} {w : hw_H}, decode cb_Ck_groupsHold pc = .ok (.ireturn, 1) → PR k n x w → hw_J p l e R s m args below meth c Q 6 g A k n pc lv [.int x] w) {a0 : Nat} {x1 : Int32} {x2 : Int32} {x3 : Int32} (vc : vc_Ck_groupsHold_24 l g R K PR k n a0 x1 x2 x3 w) : hw_J p l e R s m args below meth c Q 6 g A k n 24 [some (.ref a0), some (.int x1), some (.int x2), some (.int x3), none, none] [] w := by
  unfold vc_Ck_groupsHold_24 at vc
  refine hw_iload_n X dd_Ck_groupsHold_24 rfl ?_
  refine hw_aload_n X (Or.inr ⟨_, rfl⟩) dd_Ck_groupsHold_25 rfl ?_
  obtain ⟨b_1, h9, vc⟩ := vc
  refine hw_get X (fe_Ck_9 X) h9 dd_Ck_groupsHold_26 ?_
  obtain ⟨x_2, h9, vc⟩ := vc
  refine hw_get X (fe_Ck_73 X) h9 dd_Ck_groupsHold_29 ?_
  refine hw_icmp_ge X (tgt := 158) dd_Ck_groupsHold_32 rfl (fun hc => ?_) (fun hc => ?_)
  · replace vc := vc.1 hc
    refine hw_aload_n X (Or.inr ⟨_, rfl⟩) dd_Ck_groupsHold_158 rfl ?_
    obtain ⟨x_3, h9, vc⟩ := vc
    refine hw_get X (fe_Ck_49 X) h9 dd_Ck_groupsHold_159 ?_
    refine hw_aload_n X (Or.inr ⟨_, rfl⟩) dd_Ck_groupsHold_162 rfl ?_
    obtain ⟨b_4, h9, vc⟩ := vc
    refine hw_get X (fe_Ck_15 X) h9 dd_Ck_groupsHold_163 ?_
    obtain ⟨x_5, h9, vc⟩ := vc
    refine hw_get X (fe_Ck_52 X) h9 dd_Ck_groupsHold_166 ?_
    refine hw_icmp_lt X (tgt := 176) dd_Ck_groupsHold_169 rfl (fun hc => ?_) (fun hc => ?_)
    · replace vc := vc.1 hc
      refine hw_iconst X (v := 0) dd_Ck_groupsHold_176 (by decide) ?_
      exact rt dd_Ck_groupsHold_177 vc
    · replace vc := vc.2 hc
      refine hw_iconst X (v := 1) dd_Ck_groupsHold_172 (by decide) ?_
      refine hw_goto X (tgt := 177) dd_Ck_groupsHold_173 rfl ?_
      exact rt dd_Ck_groupsHold_177 vc
  · replace vc := vc.2 hc
    refine hw_aload_n X (Or.inr ⟨_, rfl⟩) dd_Ck_groupsHold_35 rfl ?_
    obtain ⟨b_6, h9, vc⟩ := vc
    refine hw_get X (fe_Ck_9 X) h9 dd_Ck_groupsHold_36 ?_
    obtain ⟨b_7, h9, vc⟩ := vc
    refine hw_get X (fe_Ck_74 X) h9 dd_Ck_groupsHold_39 ?_
    refine hw_iload_n X dd_Ck_groupsHold_42 rfl ?_
    obtain ⟨b_8, h9, vc⟩ := vc
    refine hw_aald X h9 dd_Ck_groupsHold_43 ?_
    refine hw_astore X (Or.inr ⟨_, rfl⟩) dd_Ck_groupsHold_44 (by decide) rfl ?_
    refine hw_aload X (Or.inr ⟨_, rfl⟩) dd_Ck_groupsHold_46 rfl ?_
    obtain ⟨x_9, h9, vc⟩ := vc
    refine hw_get X (fe_Ck_25 X) h9 dd_Ck_groupsHold_48 ?_
    refine hw_iload_n X dd_Ck_groupsHold_51 rfl ?_
    refine hw_iand X dd_Ck_groupsHold_52 ?_
    refine hw_if_ne X (tgt := 59) dd_Ck_groupsHold_53 rfl (fun hc => ?_) (fun hc => ?_)
    · replace vc := vc.1 hc
      refine hw_aload_n X (Or.inr ⟨_, rfl⟩) dd_Ck_groupsHold_59 rfl ?_
      obtain ⟨x_10, h9, vc⟩ := vc
      refine hw_get X (fe_Ck_49 X) h9 dd_Ck_groupsHold_60 ?_
      refine hw_aload_n X (Or.inr ⟨_, rfl⟩) dd_Ck_groupsHold_63 rfl ?_
      obtain ⟨b_11, h9, vc⟩ := vc
      refine hw_get X (fe_Ck_15 X) h9 dd_Ck_groupsHold_64 ?_
      obtain ⟨x_12, h9, vc⟩ := vc
      refine hw_get X (fe_Ck_52 X) h9 dd_Ck_groupsHold_67 ?_
      refine hw_icmp_ge X (tgt := 94) dd_Ck_groupsHold_70 rfl (fun hc => ?_) (fun hc => ?_)
      · replace vc := vc.1 hc
        refine hw_iconst X (v := 0) dd_Ck_groupsHold_94 (by decide) ?_
        exact rt dd_Ck_groupsHold_95 vc
      · replace vc := vc.2 hc
        refine hw_aload_n X (Or.inr ⟨_, rfl⟩) dd_Ck_groupsHold_73 rfl ?_
        obtain ⟨b_13, h9, vc⟩ := vc
        refine hw_get X (fe_Ck_15 X) h9 dd_Ck_groupsHold_74 ?_
        obtain ⟨b_14, h9, vc⟩ := vc
        refine hw_get X (fe_Ck_53 X) h9 dd_Ck_groupsHold_77 ?_
        refine hw_aload_n X (Or.inr ⟨_, rfl⟩) dd_Ck_groupsHold_80 rfl ?_
        obtain ⟨x_15, h9, vc⟩ := vc
        refine hw_get X (fe_Ck_49 X) h9 dd_Ck_groupsHold_81 ?_
        obtain ⟨x_16, h9, vc⟩ := vc
        refine hw_iald X h9 dd_Ck_groupsHold_84 ?_
        refine hw_aload X (Or.inr ⟨_, rfl⟩) dd_Ck_groupsHold_85 rfl ?_
        obtain ⟨x_17, h9, vc⟩ := vc
        refine hw_get X (fe_Ck_78 X) h9 dd_Ck_groupsHold_87 ?_
        refine hw_ineg X dd_Ck_groupsHold_90 ?_
        refine hw_icmp_eq X (tgt := 96) dd_Ck_groupsHold_91 rfl (fun hc => ?_) (fun hc => ?_)
        · replace vc := vc.1 hc
          refine hw_aload_n X (Or.inr ⟨_, rfl⟩) dd_Ck_groupsHold_96 rfl ?_
          refine hw_dup X rfl dd_Ck_groupsHold_97 ?_
          obtain ⟨x_18, h9, vc⟩ := vc
          refine hw_get X (fe_Ck_49 X) h9 dd_Ck_groupsHold_98 ?_
          refine hw_iconst X (v := 1) dd_Ck_groupsHold_101 (by decide) ?_
          refine hw_iadd X dd_Ck_groupsHold_102 ?_
          obtain ⟨w19, h9, vc⟩ := vc
          refine hw_put X (fp_Ck_49 X) rfl rfl h9 dd_Ck_groupsHold_103 ?_
          refine hw_aload X (Or.inr ⟨_, rfl⟩) dd_Ck_groupsHold_106 rfl ?_
          obtain ⟨x_20, h9, vc⟩ := vc
          refine hw_get X (fe_Ck_25 X) h9 dd_Ck_groupsHold_108 ?_
          refine hw_iload_n X dd_Ck_groupsHold_111 rfl ?_
          refine hw_iconst X (v := -1) dd_Ck_groupsHold_112 (by decide) ?_
          refine hw_ixor X dd_Ck_groupsHold_113 ?_
          refine hw_iand X dd_Ck_groupsHold_114 ?_
          refine hw_top (fun y21 ey21 => ?_)
          replace vc := vc y21 ey21
          refine hw_istore X dd_Ck_groupsHold_115 (by decide) rfl ?_
          refine hw_aload_n X (Or.inr ⟨_, rfl⟩) dd_Ck_groupsHold_117 rfl ?_
          refine hw_iload_n X dd_Ck_groupsHold_118 rfl ?_
          refine hw_iload X dd_Ck_groupsHold_119 rfl ?_
          obtain ⟨rm9, po9, hM9, hf9, hc9, vc⟩ := vc
          refine hw_callSi X (As := [.int y21]) (ye_Ck_31 X) hM9 rfl hf9 hc9 (Nat.le_of_ble_eq_true rfl) rfl dd_Ck_groupsHold_121 (fun x_25 w22 hp => ?_)
          replace vc := vc x_25 w22 hp
          refine hw_ior X dd_Ck_groupsHold_124 ?_
          obtain ⟨w26, h9, vc⟩ := vc
          refine hw_put X (fp_Ck_35 X) rfl rfl h9 dd_Ck_groupsHold_125 ?_
          refine hw_iload X dd_Ck_groupsHold_128 rfl ?_
          refine hw_aload_n X (Or.inr ⟨_, rfl⟩) dd_Ck_groupsHold_130 rfl ?_
          obtain ⟨x_27, h9, vc⟩ := vc
          refine hw_get X (fe_Ck_35 X) h9 dd_Ck_groupsHold_131 ?_
          refine hw_iand X dd_Ck_groupsHold_134 ?_
          refine hw_if_ne X (tgt := 148) dd_Ck_groupsHold_135 rfl (fun hc => ?_) (fun hc => ?_)
          · replace vc := vc.1 hc
            refine hw_aload_n X (Or.inr ⟨_, rfl⟩) dd_Ck_groupsHold_148 rfl ?_
            obtain ⟨hob, rm9, po9, hM9, hf9, hc9, vc⟩ := vc
            refine hw_callVv X (As := []) (ye_Ck_81 X) hM9 rfl hf9 hc9 hob (Nat.le_of_ble_eq_true rfl) rfl dd_Ck_groupsHold_149 (fun w28 hp => ?_)
            replace vc := vc w28 hp
            refine hw_iinc X (v := (x3 + 1)) dd_Ck_groupsHold_152 rfl rfl (by decide) rfl ?_
            refine hw_goto X (tgt := 24) dd_Ck_groupsHold_155 rfl ?_
            exact hw_drop (lv9 := [some (.ref a0), some (.int x1), some (.int x2), some (.int (x3 + 1)), none, none]) (⟨rfl, ⟨rfl, ⟨rfl, ⟨rfl, ⟨trivial, ⟨trivial, trivial⟩⟩⟩⟩⟩⟩) (hK _ _ _ _ _ _ vc)
          · replace vc := vc.2 hc
            refine hw_aload_n X (Or.inr ⟨_, rfl⟩) dd_Ck_groupsHold_138 rfl ?_
            obtain ⟨hob, rm9, po9, hM9, hf9, hc9, vc⟩ := vc
            refine hw_callVi X (As := []) (ye_Ck_38 X) hM9 rfl hf9 hc9 hob (Nat.le_of_ble_eq_true rfl) rfl dd_Ck_groupsHold_139 (fun x_34 w31 hp => ?_)
            replace vc := vc x_34 w31 hp
            refine hw_iconst X (v := -1) dd_Ck_groupsHold_142 (by decide) ?_
            refine hw_icmp_eq X (tgt := 148) dd_Ck_groupsHold_143 rfl (fun hc => ?_) (fun hc => ?_)
            · replace vc := vc.1 hc
              refine hw_aload_n X (Or.inr ⟨_, rfl⟩) dd_Ck_groupsHold_148 rfl ?_
              obtain ⟨hob, rm9, po9, hM9, hf9, hc9, vc⟩ := vc
              refine hw_callVv X (As := []) (ye_Ck_81 X) hM9 rfl hf9 hc9 hob (Nat.le_of_ble_eq_true rfl) rfl dd_Ck_groupsHold_149 (fun w35 hp => ?_)
              replace vc := vc w35 hp
              refine hw_iinc X (v := (x3 + 1)) dd_Ck_groupsHold_152 rfl rfl (by decide) rfl ?_
              refine hw_goto X (tgt := 24) dd_Ck_groupsHold_155 rfl ?_
              exact hw_drop (lv9 := [some (.ref a0), some (.int x1), some (.int x2), some (.int (x3 + 1)), none, none]) (⟨rfl, ⟨rfl, ⟨rfl, ⟨rfl, ⟨trivial, ⟨trivial, trivial⟩⟩⟩⟩⟩⟩) (hK _ _ _ _ _ _ vc)
            · replace vc := vc.2 hc
              refine hw_iconst X (v := 0) dd_Ck_groupsHold_146 (by decide) ?_
              exact rt dd_Ck_groupsHold_147 vc
        · replace vc := vc.2 hc
          refine hw_iconst X (v := 0) dd_Ck_groupsHold_94 (by decide) ?_
          exact rt dd_Ck_groupsHold_95 vc
    · replace vc := vc.2 hc
      refine hw_goto X (tgt := 152) dd_Ck_groupsHold_56 rfl ?_
      refine hw_iinc X (v := (x3 + 1)) dd_Ck_groupsHold_152 rfl rfl (by decide) rfl ?_
      refine hw_goto X (tgt := 24) dd_Ck_groupsHold_155 rfl ?_
      exact hw_drop (lv9 := [some (.ref a0), some (.int x1), some (.int x2), some (.int (x3 + 1)), none, none]) (⟨rfl, ⟨rfl, ⟨rfl, ⟨rfl, ⟨trivial, ⟨trivial, trivial⟩⟩⟩⟩⟩⟩) (hK _ _ _ _ _ _ vc)
end
section
variable {p : Program} {l : Launch} {e : Env} {R : Room} {s : State} {m : MethodId} {args : Array Value} {below : List Frame} {meth : Method} {c : Code} {Q : State → Prop} {g : hw_G} {A : Nat → Prop} {k n : Nat} {w : hw_H}
def vc_Ck_skipHints_0 (l : Launch) (g : hw_G) (R : Room) (K : Nat → Nat → Nat → List (Option Value) → List Value → hw_H → Prop) (PR : Nat → Nat → hw_H → Prop) (k n : Nat) (a0 : Nat) (w : hw_H) : Prop := ∃ x_1 : Int32, hw_g w a0 7 3 (.int x_1) ∧ (∃ b_2 : Nat, hw_g w a0 7 1 (.ref b_2) ∧ (∃ x_3 : Int32, hw_g w b_2 6 3 (.int x_3) ∧ (((x_3 ≤ x_1) → (PR k n w)) ∧ ((¬ x_3 ≤ x_1) → (∃ b_4 : Nat, hw_g w a0 7 1 (.ref b_4) ∧ (∃ b_5 : Nat, hw_g w b_4 6 2 (.ref b_5) ∧ (∃ x_6 : Int32, hw_g w a0 7 3 (.int x_6) ∧ (∃ x_7 : Int32, hw_ai g 0 w b_5 x_6 x_7 ∧ (((x_7 ≤ 0) → (PR k n w)) ∧ ((¬ x_7 ≤ 0) → (∃ x_8 : Int32, hw_g w a0 7 3 (.int x_8) ∧ (∃ w9 : hw_H, hw_p w a0 7 3 (.int (x_8 + (1 : Int32))) w9 ∧ (K k n 0 [some (.ref a0)] [] w9)))))))))))))
set_option maxHeartbeats 4000000 in
set_option maxRecDepth 100000 in
theorem sg_Ck_skipHints_0 (X : hw_X p m c cb_Ck_skipHints 1 s args (mw_Ck_skipHints) "ProofCourt$Check" g A) {K : Nat → Nat → Nat → List (Option Value) → List Value → hw_H → Prop} {PR : Nat → Nat → hw_H → Prop} (hK : ∀ (k n pc : Nat) (lv : List (Option Value)) (st : List Value) (w : hw_H), K k n pc lv st w → hw_J p l e R s m args below meth c Q 1 g A k n pc lv st w) (rt : ∀ {k n pc : Nat} {lv : List (Option Value)} {w : hw_H}, decode cb_Ck_skipHints pc = .ok (.return_, 1) → PR k n w → hw_J p l e R s m args below meth c Q 1 g A k n pc lv [] w) {a0 : Nat} (vc : vc_Ck_skipHints_0 l g R K PR k n a0 w) : hw_J p l e R s m args below meth c Q 1 g A k n 0 [some (.ref a0)] [] w := by
  unfold vc_Ck_skipHints_0 at vc
  refine hw_aload_n X (Or.inr ⟨_, rfl⟩) dd_Ck_skipHints_0 rfl ?_
  obtain ⟨x_1, h9, vc⟩ := vc
  refine hw_get X (fe_Ck_49 X) h9 dd_Ck_skipHints_1 ?_
  refine hw_aload_n X (Or.inr ⟨_, rfl⟩) dd_Ck_skipHints_4 rfl ?_
  obtain ⟨b_2, h9, vc⟩ := vc
  refine hw_get X (fe_Ck_15 X) h9 dd_Ck_skipHints_5 ?_
  obtain ⟨x_3, h9, vc⟩ := vc
  refine hw_get X (fe_Ck_52 X) h9 dd_Ck_skipHints_8 ?_
  refine hw_icmp_ge X (tgt := 42) dd_Ck_skipHints_11 rfl (fun hc => ?_) (fun hc => ?_)
  · replace vc := vc.1 hc
    exact rt dd_Ck_skipHints_42 vc
  · replace vc := vc.2 hc
    refine hw_aload_n X (Or.inr ⟨_, rfl⟩) dd_Ck_skipHints_14 rfl ?_
    obtain ⟨b_4, h9, vc⟩ := vc
    refine hw_get X (fe_Ck_15 X) h9 dd_Ck_skipHints_15 ?_
    obtain ⟨b_5, h9, vc⟩ := vc
    refine hw_get X (fe_Ck_53 X) h9 dd_Ck_skipHints_18 ?_
    refine hw_aload_n X (Or.inr ⟨_, rfl⟩) dd_Ck_skipHints_21 rfl ?_
    obtain ⟨x_6, h9, vc⟩ := vc
    refine hw_get X (fe_Ck_49 X) h9 dd_Ck_skipHints_22 ?_
    obtain ⟨x_7, h9, vc⟩ := vc
    refine hw_iald X h9 dd_Ck_skipHints_25 ?_
    refine hw_if_le X (tgt := 42) dd_Ck_skipHints_26 rfl (fun hc => ?_) (fun hc => ?_)
    · replace vc := vc.1 hc
      exact rt dd_Ck_skipHints_42 vc
    · replace vc := vc.2 hc
      refine hw_aload_n X (Or.inr ⟨_, rfl⟩) dd_Ck_skipHints_29 rfl ?_
      refine hw_dup X rfl dd_Ck_skipHints_30 ?_
      obtain ⟨x_8, h9, vc⟩ := vc
      refine hw_get X (fe_Ck_49 X) h9 dd_Ck_skipHints_31 ?_
      refine hw_iconst X (v := 1) dd_Ck_skipHints_34 (by decide) ?_
      refine hw_iadd X dd_Ck_skipHints_35 ?_
      obtain ⟨w9, h9, vc⟩ := vc
      refine hw_put X (fp_Ck_49 X) rfl rfl h9 dd_Ck_skipHints_36 ?_
      refine hw_goto X (tgt := 0) dd_Ck_skipHints_39 rfl ?_
      exact hK _ _ _ _ _ _ vc
end
