section
variable {p : Program} {l : Launch} {e : Env} {R : Room} {s : State} {m : MethodId} {args : Array Value} {below : List Frame} {meth : Method} {c : Code} {Q : State → Prop} {g : hw_G} {A : Nat → Prop} {k n : Nat} {w : hw_H}
def vc_Mo_isTrue_0 (l : Launch) (g : hw_G) (R : Room) (K : Nat → Nat → Nat → List (Option Value) → List Value → hw_H → Prop) (PR : Nat → Nat → Int32 → hw_H → Prop) (k n : Nat) (a0 : Nat) (x1 : Int32) (x2 : Int32) (w : hw_H) : Prop := ((0 ≤ x2) → (∃ x_1 : Int32, hw_g w a0 8 8 (.int x_1) ∧ (((x2 ≤ 0) → (((¬ ((x1 >>> ((x_1 - x2) &&& 31)) &&& (1 : Int32)) = (0 : Int32)) → (PR k n (0 : Int32) w)) ∧ ((((x1 >>> ((x_1 - x2) &&& 31)) &&& (1 : Int32)) = (0 : Int32)) → (PR k n (1 : Int32) w)))) ∧ ((¬ x2 ≤ 0) → (((¬ ((x1 >>> ((x_1 - x2) &&& 31)) &&& (1 : Int32)) = (1 : Int32)) → (PR k n (0 : Int32) w)) ∧ ((((x1 >>> ((x_1 - x2) &&& 31)) &&& (1 : Int32)) = (1 : Int32)) → (PR k n (1 : Int32) w))))))) ∧ ((¬ 0 ≤ x2) → (∀ y2 : Int32, y2 = (-x2) → (∃ x_3 : Int32, hw_g w a0 8 8 (.int x_3) ∧ (((x2 ≤ 0) → (((¬ ((x1 >>> ((x_3 - y2) &&& 31)) &&& (1 : Int32)) = (0 : Int32)) → (PR k n (0 : Int32) w)) ∧ ((((x1 >>> ((x_3 - y2) &&& 31)) &&& (1 : Int32)) = (0 : Int32)) → (PR k n (1 : Int32) w)))) ∧ ((¬ x2 ≤ 0) → (((¬ ((x1 >>> ((x_3 - y2) &&& 31)) &&& (1 : Int32)) = (1 : Int32)) → (PR k n (0 : Int32) w)) ∧ ((((x1 >>> ((x_3 - y2) &&& 31)) &&& (1 : Int32)) = (1 : Int32)) → (PR k n (1 : Int32) w))))))))
set_option maxHeartbeats 4000000 in
set_option maxRecDepth 100000 in
theorem sg_Mo_isTrue_0 (X : hw_X p m c cb_Mo_isTrue 4 s args (mw_Mo_isTrue) "ProofCourtModel" g A) {K : Nat → Nat → Nat → List (Option Value) → List Value → hw_H → Prop} {PR : Nat → Nat → Int32 → hw_H → Prop} (hK : ∀ (k n pc : Nat) (lv : List (Option Value)) (st : List Value) (w : hw_H), K k n pc lv st w → hw_J p l e R s m args below meth c Q 4 g A k n pc lv st w) (rt : ∀ {k n pc : Nat} {lv : List (Option Value)} {x : Int32} {w : hw_H}, decode cb_Mo_isTrue pc = .ok (.ireturn, 1) → PR k n x w → hw_J p l e R s m args below meth c Q 4 g A k n pc lv [.int x] w) {a0 : Nat} {x1 : Int32} {x2 : Int32} (vc : vc_Mo_isTrue_0 l g R K PR k n a0 x1 x2 w) : hw_J p l e R s m args below meth c Q 4 g A k n 0 [some (.ref a0), some (.int x1), some (.int x2), none] [] w := by
  unfold vc_Mo_isTrue_0 at vc
  refine hw_iload_n X dd_Mo_isTrue_0 rfl ?_
  refine hw_if_ge X (tgt := 9) dd_Mo_isTrue_1 rfl (fun hc => ?_) (fun hc => ?_)
  · replace vc := vc.1 hc
    refine hw_iload_n X dd_Mo_isTrue_9 rfl ?_
    refine hw_istore_n X dd_Mo_isTrue_10 (by decide) rfl ?_
    refine hw_iload_n X dd_Mo_isTrue_11 rfl ?_
    refine hw_aload_n X (Or.inr ⟨_, rfl⟩) dd_Mo_isTrue_12 rfl ?_
    obtain ⟨x_1, h9, vc⟩ := vc
    refine hw_get X (fe_Mo_98 X) h9 dd_Mo_isTrue_13 ?_
    refine hw_iload_n X dd_Mo_isTrue_16 rfl ?_
    refine hw_isub X dd_Mo_isTrue_17 ?_
    refine hw_ishr X dd_Mo_isTrue_18 ?_
    refine hw_iconst X (v := 1) dd_Mo_isTrue_19 (by decide) ?_
    refine hw_iand X dd_Mo_isTrue_20 ?_
    refine hw_iload_n X dd_Mo_isTrue_21 rfl ?_
    refine hw_if_le X (tgt := 29) dd_Mo_isTrue_22 rfl (fun hc => ?_) (fun hc => ?_)
    · replace vc := vc.1 hc
      refine hw_iconst X (v := 0) dd_Mo_isTrue_29 (by decide) ?_
      refine hw_icmp_ne X (tgt := 37) dd_Mo_isTrue_30 rfl (fun hc => ?_) (fun hc => ?_)
      · replace vc := vc.1 hc
        refine hw_iconst X (v := 0) dd_Mo_isTrue_37 (by decide) ?_
        exact rt dd_Mo_isTrue_38 vc
      · replace vc := vc.2 hc
        refine hw_iconst X (v := 1) dd_Mo_isTrue_33 (by decide) ?_
        refine hw_goto X (tgt := 38) dd_Mo_isTrue_34 rfl ?_
        exact rt dd_Mo_isTrue_38 vc
    · replace vc := vc.2 hc
      refine hw_iconst X (v := 1) dd_Mo_isTrue_25 (by decide) ?_
      refine hw_goto X (tgt := 30) dd_Mo_isTrue_26 rfl ?_
      refine hw_icmp_ne X (tgt := 37) dd_Mo_isTrue_30 rfl (fun hc => ?_) (fun hc => ?_)
      · replace vc := vc.1 hc
        refine hw_iconst X (v := 0) dd_Mo_isTrue_37 (by decide) ?_
        exact rt dd_Mo_isTrue_38 vc
      · replace vc := vc.2 hc
        refine hw_iconst X (v := 1) dd_Mo_isTrue_33 (by decide) ?_
        refine hw_goto X (tgt := 38) dd_Mo_isTrue_34 rfl ?_
        exact rt dd_Mo_isTrue_38 vc
  · replace vc := vc.2 hc
    refine hw_iload_n X dd_Mo_isTrue_4 rfl ?_
    refine hw_ineg X dd_Mo_isTrue_5 ?_
    refine hw_goto X (tgt := 10) dd_Mo_isTrue_6 rfl ?_
    refine hw_top (fun y2 ey2 => ?_)
    replace vc := vc y2 ey2
    refine hw_istore_n X dd_Mo_isTrue_10 (by decide) rfl ?_
    refine hw_iload_n X dd_Mo_isTrue_11 rfl ?_
    refine hw_aload_n X (Or.inr ⟨_, rfl⟩) dd_Mo_isTrue_12 rfl ?_
    obtain ⟨x_3, h9, vc⟩ := vc
    refine hw_get X (fe_Mo_98 X) h9 dd_Mo_isTrue_13 ?_
    refine hw_iload_n X dd_Mo_isTrue_16 rfl ?_
    refine hw_isub X dd_Mo_isTrue_17 ?_
    refine hw_ishr X dd_Mo_isTrue_18 ?_
    refine hw_iconst X (v := 1) dd_Mo_isTrue_19 (by decide) ?_
    refine hw_iand X dd_Mo_isTrue_20 ?_
    refine hw_iload_n X dd_Mo_isTrue_21 rfl ?_
    refine hw_if_le X (tgt := 29) dd_Mo_isTrue_22 rfl (fun hc => ?_) (fun hc => ?_)
    · replace vc := vc.1 hc
      refine hw_iconst X (v := 0) dd_Mo_isTrue_29 (by decide) ?_
      refine hw_icmp_ne X (tgt := 37) dd_Mo_isTrue_30 rfl (fun hc => ?_) (fun hc => ?_)
      · replace vc := vc.1 hc
        refine hw_iconst X (v := 0) dd_Mo_isTrue_37 (by decide) ?_
        exact rt dd_Mo_isTrue_38 vc
      · replace vc := vc.2 hc
        refine hw_iconst X (v := 1) dd_Mo_isTrue_33 (by decide) ?_
        refine hw_goto X (tgt := 38) dd_Mo_isTrue_34 rfl ?_
        exact rt dd_Mo_isTrue_38 vc
    · replace vc := vc.2 hc
      refine hw_iconst X (v := 1) dd_Mo_isTrue_25 (by decide) ?_
      refine hw_goto X (tgt := 30) dd_Mo_isTrue_26 rfl ?_
      refine hw_icmp_ne X (tgt := 37) dd_Mo_isTrue_30 rfl (fun hc => ?_) (fun hc => ?_)
      · replace vc := vc.1 hc
        refine hw_iconst X (v := 0) dd_Mo_isTrue_37 (by decide) ?_
        exact rt dd_Mo_isTrue_38 vc
      · replace vc := vc.2 hc
        refine hw_iconst X (v := 1) dd_Mo_isTrue_33 (by decide) ?_
        refine hw_goto X (tgt := 38) dd_Mo_isTrue_34 rfl ?_
        exact rt dd_Mo_isTrue_38 vc
end
section
variable {p : Program} {l : Launch} {e : Env} {R : Room} {s : State} {m : MethodId} {args : Array Value} {below : List Frame} {meth : Method} {c : Code} {Q : State → Prop} {g : hw_G} {A : Nat → Prop} {k n : Nat} {w : hw_H}
def vc_Mo_satisfies_0 (l : Launch) (g : hw_G) (R : Room) (K : Nat → Nat → Nat → List (Option Value) → List Value → hw_H → Prop) (PR : Nat → Nat → Int32 → hw_H → Prop) (k n : Nat) (a0 : Nat) (x1 : Int32) (w : hw_H) : Prop := K k n 4 [some (.ref a0), some (.int x1), some (.int (1 : Int32)), some (.int (0 : Int32)), none, none] [] w
set_option maxHeartbeats 4000000 in
set_option maxRecDepth 100000 in
theorem sg_Mo_satisfies_0 (X : hw_X p m c cb_Mo_satisfies 6 s args (mw_Mo_satisfies) "ProofCourtModel" g A) {K : Nat → Nat → Nat → List (Option Value) → List Value → hw_H → Prop} {PR : Nat → Nat → Int32 → hw_H → Prop} (hK : ∀ (k n pc : Nat) (lv : List (Option Value)) (st : List Value) (w : hw_H), K k n pc lv st w → hw_J p l e R s m args below meth c Q 6 g A k n pc lv st w) (rt : ∀ {k n pc : Nat} {lv : List (Option Value)} {x : Int32} {w : hw_H}, decode cb_Mo_satisfies pc = .ok (.ireturn, 1) → PR k n x w → hw_J p l e R s m args below meth c Q 6 g A k n pc lv [.int x] w) {a0 : Nat} {x1 : Int32} (vc : vc_Mo_satisfies_0 l g R K PR k n a0 x1 w) : hw_J p l e R s m args below meth c Q 6 g A k n 0 [some (.ref a0), some (.int x1), none, none, none, none] [] w := by
  unfold vc_Mo_satisfies_0 at vc
  refine hw_iconst X (v := 1) dd_Mo_satisfies_0 (by decide) ?_
  refine hw_istore_n X dd_Mo_satisfies_1 (by decide) rfl ?_
  refine hw_iconst X (v := 0) dd_Mo_satisfies_2 (by decide) ?_
  refine hw_istore_n X dd_Mo_satisfies_3 (by decide) rfl ?_
  exact hK _ _ _ _ _ _ vc
def vc_Mo_satisfies_4 (l : Launch) (g : hw_G) (R : Room) (K : Nat → Nat → Nat → List (Option Value) → List Value → hw_H → Prop) (PR : Nat → Nat → Int32 → hw_H → Prop) (k n : Nat) (a0 : Nat) (x1 : Int32) (x2 : Int32) (x3 : Int32) (w : hw_H) : Prop := ∃ x_1 : Int32, hw_g w a0 8 12 (.int x_1) ∧ (((x_1 ≤ x3) → (PR k n x2 w)) ∧ ((¬ x_1 ≤ x3) → (((x2 = 0) → (PR k n x2 w)) ∧ ((¬ x2 = 0) → (K k n 22 [some (.ref a0), some (.int x1), some (.int x2), some (.int x3), some (.int (0 : Int32)), some (.int (0 : Int32))] [] w)))))
set_option maxHeartbeats 4000000 in
set_option maxRecDepth 100000 in
theorem sg_Mo_satisfies_4 (X : hw_X p m c cb_Mo_satisfies 6 s args (mw_Mo_satisfies) "ProofCourtModel" g A) {K : Nat → Nat → Nat → List (Option Value) → List Value → hw_H → Prop} {PR : Nat → Nat → Int32 → hw_H → Prop} (hK : ∀ (k n pc : Nat) (lv : List (Option Value)) (st : List Value) (w : hw_H), K k n pc lv st w → hw_J p l e R s m args below meth c Q 6 g A k n pc lv st w) (rt : ∀ {k n pc : Nat} {lv : List (Option Value)} {x : Int32} {w : hw_H}, decode cb_Mo_satisfies pc = .ok (.ireturn, 1) → PR k n x w → hw_J p l e R s m args below meth c Q 6 g A k n pc lv [.int x] w) {a0 : Nat} {x1 : Int32} {x2 : Int32} {x3 : Int32} (vc : vc_Mo_satisfies_4 l g R K PR k n a0 x1 x2 x3 w) : hw_J p l e R s m args below meth c Q 6 g A k n 4 [some (.ref a0), some (.int x1), some (.int x2), some (.int x3), none, none] [] w := by
  unfold vc_Mo_satisfies_4 at vc
  refine hw_iload_n X dd_Mo_satisfies_4 rfl ?_
  refine hw_aload_n X (Or.inr ⟨_, rfl⟩) dd_Mo_satisfies_5 rfl ?_
  obtain ⟨x_1, h9, vc⟩ := vc
  refine hw_get X (fe_Mo_101 X) h9 dd_Mo_satisfies_6 ?_
  refine hw_icmp_ge X (tgt := 75) dd_Mo_satisfies_9 rfl (fun hc => ?_) (fun hc => ?_)
  · replace vc := vc.1 hc
    refine hw_iload_n X dd_Mo_satisfies_75 rfl ?_
    exact rt dd_Mo_satisfies_76 vc
  · replace vc := vc.2 hc
    refine hw_iload_n X dd_Mo_satisfies_12 rfl ?_
    refine hw_if_eq X (tgt := 75) dd_Mo_satisfies_13 rfl (fun hc => ?_) (fun hc => ?_)
    · replace vc := vc.1 hc
      refine hw_iload_n X dd_Mo_satisfies_75 rfl ?_
      exact rt dd_Mo_satisfies_76 vc
    · replace vc := vc.2 hc
      refine hw_iconst X (v := 0) dd_Mo_satisfies_16 (by decide) ?_
      refine hw_istore X dd_Mo_satisfies_17 (by decide) rfl ?_
      refine hw_iconst X (v := 0) dd_Mo_satisfies_19 (by decide) ?_
      refine hw_istore X dd_Mo_satisfies_20 (by decide) rfl ?_
      exact hK _ _ _ _ _ _ vc
def vc_Mo_satisfies_22 (l : Launch) (g : hw_G) (R : Room) (K : Nat → Nat → Nat → List (Option Value) → List Value → hw_H → Prop) (PR : Nat → Nat → Int32 → hw_H → Prop) (k n : Nat) (a0 : Nat) (x1 : Int32) (x2 : Int32) (x3 : Int32) (x4 : Int32) (x5 : Int32) (w : hw_H) : Prop := ∃ b_1 : Nat, hw_g w a0 8 9 (.ref b_1) ∧ (∃ x_2 : Int32, hw_ai g 0 w b_1 x3 x_2 ∧ (((x_2 ≤ x5) → (K k n 4 [some (.ref a0), some (.int x1), some (.int x4), some (.int (x3 + 1)), none, none] [] w)) ∧ ((¬ x_2 ≤ x5) → (((¬ x4 = 0) → (K k n 22 [some (.ref a0), some (.int x1), some (.int x2), some (.int x3), some (.int (1 : Int32)), some (.int (x5 + 1))] [] w)) ∧ ((x4 = 0) → (hw_o w a0 "ProofCourtModel" ∧ hw_ci l g R k n ym_Mo_literalOf (mw_Mo_literalOf) 3 [.ref a0, .int x3, .int x5] w (fun (k4 n5 : Nat) (x_6 : Int32) (w3 : hw_H) => hw_o w3 a0 "ProofCourtModel" ∧ hw_ci l g R k4 n5 ym_Mo_isTrue (mw_Mo_isTrue) 4 [.ref a0, .int x1, .int x_6] w3 (fun (k8 n9 : Nat) (x_10 : Int32) (w7 : hw_H) => ((x_10 = 0) → (K k8 n9 22 [some (.ref a0), some (.int x1), some (.int x2), some (.int x3), some (.int (0 : Int32)), some (.int (x5 + 1))] [] w7)) ∧ ((¬ x_10 = 0) → (K k8 n9 22 [some (.ref a0), some (.int x1), some (.int x2), some (.int x3), some (.int (1 : Int32)), some (.int (x5 + 1))] [] w7))))))))))
set_option maxHeartbeats 4000000 in
set_option maxRecDepth 100000 in
theorem sg_Mo_satisfies_22 (X : hw_X p m c cb_Mo_satisfies 6 s args (mw_Mo_satisfies) "ProofCourtModel" g A) {K : Nat → Nat → Nat → List (Option Value) → List Value → hw_H → Prop} {PR : Nat → Nat → Int32 → hw_H → Prop} (hK : ∀ (k n pc : Nat) (lv : List (Option Value)) (st : List Value) (w : hw_H), K k n pc lv st w → hw_J p l e R s m args below meth c Q 6 g A k n pc lv st w) (rt : ∀ {k n pc : Nat} {lv : List (Option Value)} {x : Int32} {w : hw_H}, decode cb_Mo_satisfies pc = .ok (.ireturn, 1) → PR k n x w → hw_J p l e R s m args below meth c Q 6 g A k n pc lv [.int x] w) {a0 : Nat} {x1 : Int32} {x2 : Int32} {x3 : Int32} {x4 : Int32} {x5 : Int32} (vc : vc_Mo_satisfies_22 l g R K PR k n a0 x1 x2 x3 x4 x5 w) : hw_J p l e R s m args below meth c Q 6 g A k n 22 [some (.ref a0), some (.int x1), some (.int x2), some (.int x3), some (.int x4), some (.int x5)] [] w := by
  unfold vc_Mo_satisfies_22 at vc
  refine hw_iload X dd_Mo_satisfies_22 rfl ?_
  refine hw_aload_n X (Or.inr ⟨_, rfl⟩) dd_Mo_satisfies_24 rfl ?_
  obtain ⟨b_1, h9, vc⟩ := vc
  refine hw_get X (fe_Mo_19 X) h9 dd_Mo_satisfies_25 ?_
  refine hw_iload_n X dd_Mo_satisfies_28 rfl ?_
  obtain ⟨x_2, h9, vc⟩ := vc
  refine hw_iald X h9 dd_Mo_satisfies_29 ?_
  refine hw_icmp_ge X (tgt := 66) dd_Mo_satisfies_30 rfl (fun hc => ?_) (fun hc => ?_)
  · replace vc := vc.1 hc
    refine hw_iload X dd_Mo_satisfies_66 rfl ?_
    refine hw_istore_n X dd_Mo_satisfies_68 (by decide) rfl ?_
    refine hw_iinc X (v := (x3 + 1)) dd_Mo_satisfies_69 rfl rfl (by decide) rfl ?_
    refine hw_goto X (tgt := 4) dd_Mo_satisfies_72 rfl ?_
    exact hw_drop (lv9 := [some (.ref a0), some (.int x1), some (.int x4), some (.int (x3 + 1)), none, none]) (⟨rfl, ⟨rfl, ⟨rfl, ⟨rfl, ⟨trivial, ⟨trivial, trivial⟩⟩⟩⟩⟩⟩) (hK _ _ _ _ _ _ vc)
  · replace vc := vc.2 hc
    refine hw_iload X dd_Mo_satisfies_33 rfl ?_
    refine hw_if_ne X (tgt := 53) dd_Mo_satisfies_35 rfl (fun hc => ?_) (fun hc => ?_)
    · replace vc := vc.1 hc
      refine hw_iconst X (v := 1) dd_Mo_satisfies_53 (by decide) ?_
      refine hw_goto X (tgt := 58) dd_Mo_satisfies_54 rfl ?_
      refine hw_istore X dd_Mo_satisfies_58 (by decide) rfl ?_
      refine hw_iinc X (v := (x5 + 1)) dd_Mo_satisfies_60 rfl rfl (by decide) rfl ?_
      refine hw_goto X (tgt := 22) dd_Mo_satisfies_63 rfl ?_
      exact hK _ _ _ _ _ _ vc
    · replace vc := vc.2 hc
      refine hw_aload_n X (Or.inr ⟨_, rfl⟩) dd_Mo_satisfies_38 rfl ?_
      refine hw_iload_n X dd_Mo_satisfies_39 rfl ?_
      refine hw_aload_n X (Or.inr ⟨_, rfl⟩) dd_Mo_satisfies_40 rfl ?_
      refine hw_iload_n X dd_Mo_satisfies_41 rfl ?_
      refine hw_iload X dd_Mo_satisfies_42 rfl ?_
      obtain ⟨hob, rm9, po9, hM9, hf9, hc9, vc⟩ := vc
      refine hw_callVi X (As := [.int x3, .int x5]) (ye_Mo_76 X) hM9 rfl hf9 hc9 hob (Nat.le_of_ble_eq_true rfl) rfl dd_Mo_satisfies_44 (fun x_6 w3 hp => ?_)
      replace vc := vc x_6 w3 hp
      obtain ⟨hob, rm9, po9, hM9, hf9, hc9, vc⟩ := vc
      refine hw_callVi X (As := [.int x1, .int x_6]) (ye_Mo_121 X) hM9 rfl hf9 hc9 hob (Nat.le_of_ble_eq_true rfl) rfl dd_Mo_satisfies_47 (fun x_10 w7 hp => ?_)
      replace vc := vc x_10 w7 hp
      refine hw_if_eq X (tgt := 57) dd_Mo_satisfies_50 rfl (fun hc => ?_) (fun hc => ?_)
      · replace vc := vc.1 hc
        refine hw_iconst X (v := 0) dd_Mo_satisfies_57 (by decide) ?_
        refine hw_istore X dd_Mo_satisfies_58 (by decide) rfl ?_
        refine hw_iinc X (v := (x5 + 1)) dd_Mo_satisfies_60 rfl rfl (by decide) rfl ?_
        refine hw_goto X (tgt := 22) dd_Mo_satisfies_63 rfl ?_
        exact hK _ _ _ _ _ _ vc
      · replace vc := vc.2 hc
        refine hw_iconst X (v := 1) dd_Mo_satisfies_53 (by decide) ?_
        refine hw_goto X (tgt := 58) dd_Mo_satisfies_54 rfl ?_
        refine hw_istore X dd_Mo_satisfies_58 (by decide) rfl ?_
        refine hw_iinc X (v := (x5 + 1)) dd_Mo_satisfies_60 rfl rfl (by decide) rfl ?_
        refine hw_goto X (tgt := 22) dd_Mo_satisfies_63 rfl ?_
        exact hK _ _ _ _ _ _ vc
end
section
variable {p : Program} {l : Launch} {e : Env} {R : Room} {s : State} {m : MethodId} {args : Array Value} {below : List Frame} {meth : Method} {c : Code} {Q : State → Prop} {g : hw_G} {A : Nat → Prop} {k n : Nat} {w : hw_H}
def vc_Mo_least_0 (l : Launch) (g : hw_G) (R : Room) (K : Nat → Nat → Nat → List (Option Value) → List Value → hw_H → Prop) (PR : Nat → Nat → Int32 → hw_H → Prop) (k n : Nat) (a0 : Nat) (w : hw_H) : Prop := K k n 4 [some (.ref a0), some (.int (-1 : Int32)), some (.int (0 : Int32))] [] w
set_option maxHeartbeats 4000000 in
set_option maxRecDepth 100000 in
theorem sg_Mo_least_0 (X : hw_X p m c cb_Mo_least 3 s args (mw_Mo_least) "ProofCourtModel" g A) {K : Nat → Nat → Nat → List (Option Value) → List Value → hw_H → Prop} {PR : Nat → Nat → Int32 → hw_H → Prop} (hK : ∀ (k n pc : Nat) (lv : List (Option Value)) (st : List Value) (w : hw_H), K k n pc lv st w → hw_J p l e R s m args below meth c Q 3 g A k n pc lv st w) (rt : ∀ {k n pc : Nat} {lv : List (Option Value)} {x : Int32} {w : hw_H}, decode cb_Mo_least pc = .ok (.ireturn, 1) → PR k n x w → hw_J p l e R s m args below meth c Q 3 g A k n pc lv [.int x] w) {a0 : Nat} (vc : vc_Mo_least_0 l g R K PR k n a0 w) : hw_J p l e R s m args below meth c Q 3 g A k n 0 [some (.ref a0), none, none] [] w := by
  unfold vc_Mo_least_0 at vc
  refine hw_iconst X (v := -1) dd_Mo_least_0 (by decide) ?_
  refine hw_istore_n X dd_Mo_least_1 (by decide) rfl ?_
  refine hw_iconst X (v := 0) dd_Mo_least_2 (by decide) ?_
  refine hw_istore_n X dd_Mo_least_3 (by decide) rfl ?_
  exact hK _ _ _ _ _ _ vc
def vc_Mo_least_4 (l : Launch) (g : hw_G) (R : Room) (K : Nat → Nat → Nat → List (Option Value) → List Value → hw_H → Prop) (PR : Nat → Nat → Int32 → hw_H → Prop) (k n : Nat) (a0 : Nat) (x1 : Int32) (x2 : Int32) (w : hw_H) : Prop := ∃ x_1 : Int32, hw_g w a0 8 8 (.int x_1) ∧ (((((1 : Int32) <<< (x_1 &&& 31)) ≤ x2) → (PR k n x1 w)) ∧ ((¬ ((1 : Int32) <<< (x_1 &&& 31)) ≤ x2) → (((0 ≤ x1) → (PR k n x1 w)) ∧ ((¬ 0 ≤ x1) → (hw_o w a0 "ProofCourtModel" ∧ hw_ci l g R k n ym_Mo_satisfies (mw_Mo_satisfies) 6 [.ref a0, .int x2] w (fun (k3 n4 : Nat) (x_5 : Int32) (w2 : hw_H) => ((x_5 = 0) → (K k3 n4 4 [some (.ref a0), some (.int (-1 : Int32)), some (.int (x2 + 1))] [] w2)) ∧ ((¬ x_5 = 0) → (K k3 n4 4 [some (.ref a0), some (.int x2), some (.int (x2 + 1))] [] w2))))))))
set_option maxHeartbeats 4000000 in
set_option maxRecDepth 100000 in
theorem sg_Mo_least_4 (X : hw_X p m c cb_Mo_least 3 s args (mw_Mo_least) "ProofCourtModel" g A) {K : Nat → Nat → Nat → List (Option Value) → List Value → hw_H → Prop} {PR : Nat → Nat → Int32 → hw_H → Prop} (hK : ∀ (k n pc : Nat) (lv : List (Option Value)) (st : List Value) (w : hw_H), K k n pc lv st w → hw_J p l e R s m args below meth c Q 3 g A k n pc lv st w) (rt : ∀ {k n pc : Nat} {lv : List (Option Value)} {x : Int32} {w : hw_H}, decode cb_Mo_least pc = .ok (.ireturn, 1) → PR k n x w → hw_J p l e R s m args below meth c Q 3 g A k n pc lv [.int x] w) {a0 : Nat} {x1 : Int32} {x2 : Int32} (vc : vc_Mo_least_4 l g R K PR k n a0 x1 x2 w) : hw_J p l e R s m args below meth c Q 3 g A k n 4 [some (.ref a0), some (.int x1), some (.int x2)] [] w := by
  unfold vc_Mo_least_4 at vc
  refine hw_iload_n X dd_Mo_least_4 rfl ?_
  refine hw_iconst X (v := 1) dd_Mo_least_5 (by decide) ?_
  refine hw_aload_n X (Or.inr ⟨_, rfl⟩) dd_Mo_least_6 rfl ?_
  obtain ⟨x_1, h9, vc⟩ := vc
  refine hw_get X (fe_Mo_98 X) h9 dd_Mo_least_7 ?_
  refine hw_ishl X dd_Mo_least_10 ?_
  refine hw_icmp_ge X (tgt := 38) dd_Mo_least_11 rfl (fun hc => ?_) (fun hc => ?_)
  · replace vc := vc.1 hc
    refine hw_iload_n X dd_Mo_least_38 rfl ?_
    exact rt dd_Mo_least_39 vc
  · replace vc := vc.2 hc
    refine hw_iload_n X dd_Mo_least_14 rfl ?_
    refine hw_if_ge X (tgt := 38) dd_Mo_least_15 rfl (fun hc => ?_) (fun hc => ?_)
    · replace vc := vc.1 hc
      refine hw_iload_n X dd_Mo_least_38 rfl ?_
      exact rt dd_Mo_least_39 vc
    · replace vc := vc.2 hc
      refine hw_aload_n X (Or.inr ⟨_, rfl⟩) dd_Mo_least_18 rfl ?_
      refine hw_iload_n X dd_Mo_least_19 rfl ?_
      obtain ⟨hob, rm9, po9, hM9, hf9, hc9, vc⟩ := vc
      refine hw_callVi X (As := [.int x2]) (ye_Mo_124 X) hM9 rfl hf9 hc9 hob (Nat.le_of_ble_eq_true rfl) rfl dd_Mo_least_20 (fun x_5 w2 hp => ?_)
      replace vc := vc x_5 w2 hp
      refine hw_if_eq X (tgt := 30) dd_Mo_least_23 rfl (fun hc => ?_) (fun hc => ?_)
      · replace vc := vc.1 hc
        refine hw_iconst X (v := -1) dd_Mo_least_30 (by decide) ?_
        refine hw_istore_n X dd_Mo_least_31 (by decide) rfl ?_
        refine hw_iinc X (v := (x2 + 1)) dd_Mo_least_32 rfl rfl (by decide) rfl ?_
        refine hw_goto X (tgt := 4) dd_Mo_least_35 rfl ?_
        exact hK _ _ _ _ _ _ vc
      · replace vc := vc.2 hc
        refine hw_iload_n X dd_Mo_least_26 rfl ?_
        refine hw_goto X (tgt := 31) dd_Mo_least_27 rfl ?_
        refine hw_istore_n X dd_Mo_least_31 (by decide) rfl ?_
        refine hw_iinc X (v := (x2 + 1)) dd_Mo_least_32 rfl rfl (by decide) rfl ?_
        refine hw_goto X (tgt := 4) dd_Mo_least_35 rfl ?_
        exact hK _ _ _ _ _ _ vc
end
section
variable {p : Program} {l : Launch} {e : Env} {R : Room} {s : State} {m : MethodId} {args : Array Value} {below : List Frame} {meth : Method} {c : Code} {Q : State → Prop} {g : hw_G} {A : Nat → Prop} {k n : Nat} {w : hw_H}
def vc_Mo_solve_0 (l : Launch) (g : hw_G) (R : Room) (K : Nat → Nat → Nat → List (Option Value) → List Value → hw_H → Prop) (PR : Nat → Nat → Int32 → hw_H → Prop) (k n : Nat) (a0 : Nat) (w : hw_H) : Prop := hw_o w a0 "ProofCourtModel" ∧ hw_ci l g R k n ym_Mo_least (mw_Mo_least) 3 [.ref a0] w (fun (k2 n3 : Nat) (x_4 : Int32) (w1 : hw_H) => ((x_4 < 0) → (PR k2 n3 (0 : Int32) w1)) ∧ ((¬ x_4 < 0) → (PR k2 n3 (1 : Int32) w1)))
set_option maxHeartbeats 4000000 in
set_option maxRecDepth 100000 in
theorem sg_Mo_solve_0 (X : hw_X p m c cb_Mo_solve 1 s args (mw_Mo_solve) "ProofCourtModel" g A) {K : Nat → Nat → Nat → List (Option Value) → List Value → hw_H → Prop} {PR : Nat → Nat → Int32 → hw_H → Prop} (hK : ∀ (k n pc : Nat) (lv : List (Option Value)) (st : List Value) (w : hw_H), K k n pc lv st w → hw_J p l e R s m args below meth c Q 1 g A k n pc lv st w) (rt : ∀ {k n pc : Nat} {lv : List (Option Value)} {x : Int32} {w : hw_H}, decode cb_Mo_solve pc = .ok (.ireturn, 1) → PR k n x w → hw_J p l e R s m args below meth c Q 1 g A k n pc lv [.int x] w) {a0 : Nat} (vc : vc_Mo_solve_0 l g R K PR k n a0 w) : hw_J p l e R s m args below meth c Q 1 g A k n 0 [some (.ref a0)] [] w := by
  unfold vc_Mo_solve_0 at vc
  refine hw_aload_n X (Or.inr ⟨_, rfl⟩) dd_Mo_solve_0 rfl ?_
  obtain ⟨hob, rm9, po9, hM9, hf9, hc9, vc⟩ := vc
  refine hw_callVi X (As := []) (ye_Mo_127 X) hM9 rfl hf9 hc9 hob (Nat.le_of_ble_eq_true rfl) rfl dd_Mo_solve_1 (fun x_4 w1 hp => ?_)
  replace vc := vc x_4 w1 hp
  refine hw_if_lt X (tgt := 11) dd_Mo_solve_4 rfl (fun hc => ?_) (fun hc => ?_)
  · replace vc := vc.1 hc
    refine hw_iconst X (v := 0) dd_Mo_solve_11 (by decide) ?_
    exact rt dd_Mo_solve_12 vc
  · replace vc := vc.2 hc
    refine hw_iconst X (v := 1) dd_Mo_solve_7 (by decide) ?_
    refine hw_goto X (tgt := 12) dd_Mo_solve_8 rfl ?_
    exact rt dd_Mo_solve_12 vc
end
section
variable {p : Program} {l : Launch} {e : Env} {R : Room} {s : State} {m : MethodId} {args : Array Value} {below : List Frame} {meth : Method} {c : Code} {Q : State → Prop} {g : hw_G} {A : Nat → Prop} {k n : Nat} {w : hw_H}
def vc_Mo_value_0 (l : Launch) (g : hw_G) (R : Room) (K : Nat → Nat → Nat → List (Option Value) → List Value → hw_H → Prop) (PR : Nat → Nat → Int32 → hw_H → Prop) (k n : Nat) (a0 : Nat) (x1 : Int32) (w : hw_H) : Prop := hw_o w a0 "ProofCourtModel" ∧ hw_ci l g R k n ym_Mo_least (mw_Mo_least) 3 [.ref a0] w (fun (k2 n3 : Nat) (x_4 : Int32) (w1 : hw_H) => ∃ x_5 : Int32, hw_g w1 a0 8 8 (.int x_5) ∧ (hw_ci l g R k2 n3 ym_Mo_in (mw_Mo_in) 3 [.int x1, .int (1 : Int32), .int x_5] w1 (fun (k7 n8 : Nat) (x_9 : Int32) (w6 : hw_H) => ((x_9 = 0) → (PR k7 n8 (-1 : Int32) w6)) ∧ ((¬ x_9 = 0) → (((x_4 < 0) → (PR k7 n8 (-1 : Int32) w6)) ∧ ((¬ x_4 < 0) → (∃ x_10 : Int32, hw_g w6 a0 8 8 (.int x_10) ∧ (PR k7 n8 ((x_4 >>> ((x_10 - x1) &&& 31)) &&& (1 : Int32)) w6))))))))
set_option maxHeartbeats 4000000 in
set_option maxRecDepth 100000 in
theorem sg_Mo_value_0 (X : hw_X p m c cb_Mo_value 3 s args (mw_Mo_value) "ProofCourtModel" g A) {K : Nat → Nat → Nat → List (Option Value) → List Value → hw_H → Prop} {PR : Nat → Nat → Int32 → hw_H → Prop} (hK : ∀ (k n pc : Nat) (lv : List (Option Value)) (st : List Value) (w : hw_H), K k n pc lv st w → hw_J p l e R s m args below meth c Q 3 g A k n pc lv st w) (rt : ∀ {k n pc : Nat} {lv : List (Option Value)} {x : Int32} {w : hw_H}, decode cb_Mo_value pc = .ok (.ireturn, 1) → PR k n x w → hw_J p l e R s m args below meth c Q 3 g A k n pc lv [.int x] w) {a0 : Nat} {x1 : Int32} (vc : vc_Mo_value_0 l g R K PR k n a0 x1 w) : hw_J p l e R s m args below meth c Q 3 g A k n 0 [some (.ref a0), some (.int x1), none] [] w := by
  unfold vc_Mo_value_0 at vc
  refine hw_aload_n X (Or.inr ⟨_, rfl⟩) dd_Mo_value_0 rfl ?_
  obtain ⟨hob, rm9, po9, hM9, hf9, hc9, vc⟩ := vc
  refine hw_callVi X (As := []) (ye_Mo_127 X) hM9 rfl hf9 hc9 hob (Nat.le_of_ble_eq_true rfl) rfl dd_Mo_value_1 (fun x_4 w1 hp => ?_)
  replace vc := vc x_4 w1 hp
  refine hw_istore_n X dd_Mo_value_4 (by decide) rfl ?_
  refine hw_iload_n X dd_Mo_value_5 rfl ?_
  refine hw_iconst X (v := 1) dd_Mo_value_6 (by decide) ?_
  refine hw_aload_n X (Or.inr ⟨_, rfl⟩) dd_Mo_value_7 rfl ?_
  obtain ⟨x_5, h9, vc⟩ := vc
  refine hw_get X (fe_Mo_98 X) h9 dd_Mo_value_8 ?_
  obtain ⟨rm9, po9, hM9, hf9, hc9, vc⟩ := vc
  refine hw_callSi X (As := [.int x1, .int (1 : Int32), .int x_5]) (ye_Mo_38 X) hM9 rfl hf9 hc9 (Nat.le_of_ble_eq_true rfl) rfl dd_Mo_value_11 (fun x_9 w6 hp => ?_)
  replace vc := vc x_9 w6 hp
  refine hw_if_eq X (tgt := 34) dd_Mo_value_14 rfl (fun hc => ?_) (fun hc => ?_)
  · replace vc := vc.1 hc
    refine hw_iconst X (v := -1) dd_Mo_value_34 (by decide) ?_
    exact rt dd_Mo_value_35 vc
  · replace vc := vc.2 hc
    refine hw_iload_n X dd_Mo_value_17 rfl ?_
    refine hw_if_lt X (tgt := 34) dd_Mo_value_18 rfl (fun hc => ?_) (fun hc => ?_)
    · replace vc := vc.1 hc
      refine hw_iconst X (v := -1) dd_Mo_value_34 (by decide) ?_
      exact rt dd_Mo_value_35 vc
    · replace vc := vc.2 hc
      refine hw_iload_n X dd_Mo_value_21 rfl ?_
      refine hw_aload_n X (Or.inr ⟨_, rfl⟩) dd_Mo_value_22 rfl ?_
      obtain ⟨x_10, h9, vc⟩ := vc
      refine hw_get X (fe_Mo_98 X) h9 dd_Mo_value_23 ?_
      refine hw_iload_n X dd_Mo_value_26 rfl ?_
      refine hw_isub X dd_Mo_value_27 ?_
      refine hw_ishr X dd_Mo_value_28 ?_
      refine hw_iconst X (v := 1) dd_Mo_value_29 (by decide) ?_
      refine hw_iand X dd_Mo_value_30 ?_
      refine hw_goto X (tgt := 35) dd_Mo_value_31 rfl ?_
      exact rt dd_Mo_value_35 vc
end
section
variable {p : Program} {l : Launch} {e : Env} {R : Room} {s : State} {m : MethodId} {args : Array Value} {below : List Frame} {meth : Method} {c : Code} {Q : State → Prop} {g : hw_G} {A : Nat → Prop} {k n : Nat} {w : hw_H}
def vc_Mo_count_0 (l : Launch) (g : hw_G) (R : Room) (K : Nat → Nat → Nat → List (Option Value) → List Value → hw_H → Prop) (PR : Nat → Nat → Int32 → hw_H → Prop) (k n : Nat) (a0 : Nat) (w : hw_H) : Prop := K k n 4 [some (.ref a0), some (.int (0 : Int32)), some (.int (0 : Int32))] [] w
set_option maxHeartbeats 4000000 in
set_option maxRecDepth 100000 in
theorem sg_Mo_count_0 (X : hw_X p m c cb_Mo_count 3 s args (mw_Mo_count) "ProofCourtModel" g A) {K : Nat → Nat → Nat → List (Option Value) → List Value → hw_H → Prop} {PR : Nat → Nat → Int32 → hw_H → Prop} (hK : ∀ (k n pc : Nat) (lv : List (Option Value)) (st : List Value) (w : hw_H), K k n pc lv st w → hw_J p l e R s m args below meth c Q 3 g A k n pc lv st w) (rt : ∀ {k n pc : Nat} {lv : List (Option Value)} {x : Int32} {w : hw_H}, decode cb_Mo_count pc = .ok (.ireturn, 1) → PR k n x w → hw_J p l e R s m args below meth c Q 3 g A k n pc lv [.int x] w) {a0 : Nat} (vc : vc_Mo_count_0 l g R K PR k n a0 w) : hw_J p l e R s m args below meth c Q 3 g A k n 0 [some (.ref a0), none, none] [] w := by
  unfold vc_Mo_count_0 at vc
  refine hw_iconst X (v := 0) dd_Mo_count_0 (by decide) ?_
  refine hw_istore_n X dd_Mo_count_1 (by decide) rfl ?_
  refine hw_iconst X (v := 0) dd_Mo_count_2 (by decide) ?_
  refine hw_istore_n X dd_Mo_count_3 (by decide) rfl ?_
  exact hK _ _ _ _ _ _ vc
def vc_Mo_count_4 (l : Launch) (g : hw_G) (R : Room) (K : Nat → Nat → Nat → List (Option Value) → List Value → hw_H → Prop) (PR : Nat → Nat → Int32 → hw_H → Prop) (k n : Nat) (a0 : Nat) (x1 : Int32) (x2 : Int32) (w : hw_H) : Prop := ∃ x_1 : Int32, hw_g w a0 8 8 (.int x_1) ∧ (((((1 : Int32) <<< (x_1 &&& 31)) ≤ x2) → (PR k n x1 w)) ∧ ((¬ ((1 : Int32) <<< (x_1 &&& 31)) ≤ x2) → (hw_o w a0 "ProofCourtModel" ∧ hw_ci l g R k n ym_Mo_satisfies (mw_Mo_satisfies) 6 [.ref a0, .int x2] w (fun (k3 n4 : Nat) (x_5 : Int32) (w2 : hw_H) => ((x_5 = 0) → (K k3 n4 4 [some (.ref a0), some (.int x1), some (.int (x2 + 1))] [] w2)) ∧ ((¬ x_5 = 0) → (∀ y6 : Int32, y6 = (x1 + (1 : Int32)) → (K k3 n4 4 [some (.ref a0), some (.int y6), some (.int (x2 + 1))] [] w2)))))))
set_option maxHeartbeats 4000000 in
set_option maxRecDepth 100000 in
theorem sg_Mo_count_4 (X : hw_X p m c cb_Mo_count 3 s args (mw_Mo_count) "ProofCourtModel" g A) {K : Nat → Nat → Nat → List (Option Value) → List Value → hw_H → Prop} {PR : Nat → Nat → Int32 → hw_H → Prop} (hK : ∀ (k n pc : Nat) (lv : List (Option Value)) (st : List Value) (w : hw_H), K k n pc lv st w → hw_J p l e R s m args below meth c Q 3 g A k n pc lv st w) (rt : ∀ {k n pc : Nat} {lv : List (Option Value)} {x : Int32} {w : hw_H}, decode cb_Mo_count pc = .ok (.ireturn, 1) → PR k n x w → hw_J p l e R s m args below meth c Q 3 g A k n pc lv [.int x] w) {a0 : Nat} {x1 : Int32} {x2 : Int32} (vc : vc_Mo_count_4 l g R K PR k n a0 x1 x2 w) : hw_J p l e R s m args below meth c Q 3 g A k n 4 [some (.ref a0), some (.int x1), some (.int x2)] [] w := by
  unfold vc_Mo_count_4 at vc
  refine hw_iload_n X dd_Mo_count_4 rfl ?_
  refine hw_iconst X (v := 1) dd_Mo_count_5 (by decide) ?_
  refine hw_aload_n X (Or.inr ⟨_, rfl⟩) dd_Mo_count_6 rfl ?_
  obtain ⟨x_1, h9, vc⟩ := vc
  refine hw_get X (fe_Mo_98 X) h9 dd_Mo_count_7 ?_
  refine hw_ishl X dd_Mo_count_10 ?_
  refine hw_icmp_ge X (tgt := 36) dd_Mo_count_11 rfl (fun hc => ?_) (fun hc => ?_)
  · replace vc := vc.1 hc
    refine hw_iload_n X dd_Mo_count_36 rfl ?_
    exact rt dd_Mo_count_37 vc
  · replace vc := vc.2 hc
    refine hw_aload_n X (Or.inr ⟨_, rfl⟩) dd_Mo_count_14 rfl ?_
    refine hw_iload_n X dd_Mo_count_15 rfl ?_
    obtain ⟨hob, rm9, po9, hM9, hf9, hc9, vc⟩ := vc
    refine hw_callVi X (As := [.int x2]) (ye_Mo_124 X) hM9 rfl hf9 hc9 hob (Nat.le_of_ble_eq_true rfl) rfl dd_Mo_count_16 (fun x_5 w2 hp => ?_)
    replace vc := vc x_5 w2 hp
    refine hw_if_eq X (tgt := 28) dd_Mo_count_19 rfl (fun hc => ?_) (fun hc => ?_)
    · replace vc := vc.1 hc
      refine hw_iload_n X dd_Mo_count_28 rfl ?_
      refine hw_istore_n X dd_Mo_count_29 (by decide) rfl ?_
      refine hw_iinc X (v := (x2 + 1)) dd_Mo_count_30 rfl rfl (by decide) rfl ?_
      refine hw_goto X (tgt := 4) dd_Mo_count_33 rfl ?_
      exact hK _ _ _ _ _ _ vc
    · replace vc := vc.2 hc
      refine hw_iload_n X dd_Mo_count_22 rfl ?_
      refine hw_iconst X (v := 1) dd_Mo_count_23 (by decide) ?_
      refine hw_iadd X dd_Mo_count_24 ?_
      refine hw_goto X (tgt := 29) dd_Mo_count_25 rfl ?_
      refine hw_top (fun y6 ey6 => ?_)
      replace vc := vc y6 ey6
      refine hw_istore_n X dd_Mo_count_29 (by decide) rfl ?_
      refine hw_iinc X (v := (x2 + 1)) dd_Mo_count_30 rfl rfl (by decide) rfl ?_
      refine hw_goto X (tgt := 4) dd_Mo_count_33 rfl ?_
      exact hK _ _ _ _ _ _ vc
end
section
variable {p : Program} {l : Launch} {e : Env} {R : Room} {s : State} {m : MethodId} {args : Array Value} {below : List Frame} {meth : Method} {c : Code} {Q : State → Prop} {g : hw_G} {A : Nat → Prop} {k n : Nat} {w : hw_H}
def vc_Mo_proves_0 (l : Launch) (g : hw_G) (R : Room) (K : Nat → Nat → Nat → List (Option Value) → List Value → hw_H → Prop) (PR : Nat → Nat → Int32 → hw_H → Prop) (k n : Nat) (a0 : Nat) (w : hw_H) : Prop := hw_o w a0 "ProofCourtModel" ∧ hw_ci l g R k n ym_Mo_least (mw_Mo_least) 3 [.ref a0] w (fun (k2 n3 : Nat) (x_4 : Int32) (w1 : hw_H) => ((0 ≤ x_4) → (PR k2 n3 (0 : Int32) w1)) ∧ ((¬ 0 ≤ x_4) → (PR k2 n3 (1 : Int32) w1)))
set_option maxHeartbeats 4000000 in
set_option maxRecDepth 100000 in
theorem sg_Mo_proves_0 (X : hw_X p m c cb_Mo_proves 1 s args (mw_Mo_proves) "ProofCourtModel" g A) {K : Nat → Nat → Nat → List (Option Value) → List Value → hw_H → Prop} {PR : Nat → Nat → Int32 → hw_H → Prop} (hK : ∀ (k n pc : Nat) (lv : List (Option Value)) (st : List Value) (w : hw_H), K k n pc lv st w → hw_J p l e R s m args below meth c Q 1 g A k n pc lv st w) (rt : ∀ {k n pc : Nat} {lv : List (Option Value)} {x : Int32} {w : hw_H}, decode cb_Mo_proves pc = .ok (.ireturn, 1) → PR k n x w → hw_J p l e R s m args below meth c Q 1 g A k n pc lv [.int x] w) {a0 : Nat} (vc : vc_Mo_proves_0 l g R K PR k n a0 w) : hw_J p l e R s m args below meth c Q 1 g A k n 0 [some (.ref a0)] [] w := by
  unfold vc_Mo_proves_0 at vc
  refine hw_aload_n X (Or.inr ⟨_, rfl⟩) dd_Mo_proves_0 rfl ?_
  obtain ⟨hob, rm9, po9, hM9, hf9, hc9, vc⟩ := vc
  refine hw_callVi X (As := []) (ye_Mo_127 X) hM9 rfl hf9 hc9 hob (Nat.le_of_ble_eq_true rfl) rfl dd_Mo_proves_1 (fun x_4 w1 hp => ?_)
  replace vc := vc x_4 w1 hp
  refine hw_if_ge X (tgt := 11) dd_Mo_proves_4 rfl (fun hc => ?_) (fun hc => ?_)
  · replace vc := vc.1 hc
    refine hw_iconst X (v := 0) dd_Mo_proves_11 (by decide) ?_
    exact rt dd_Mo_proves_12 vc
  · replace vc := vc.2 hc
    refine hw_iconst X (v := 1) dd_Mo_proves_7 (by decide) ?_
    refine hw_goto X (tgt := 12) dd_Mo_proves_8 rfl ?_
    exact rt dd_Mo_proves_12 vc
end
section
variable {p : Program} {l : Launch} {e : Env} {R : Room} {s : State} {m : MethodId} {args : Array Value} {below : List Frame} {meth : Method} {c : Code} {Q : State → Prop} {g : hw_G} {A : Nat → Prop} {k n : Nat} {w : hw_H}
def vc_Mo_forget_0 (l : Launch) (g : hw_G) (R : Room) (K : Nat → Nat → Nat → List (Option Value) → List Value → hw_H → Prop) (PR : Nat → Nat → hw_H → Prop) (k n : Nat) (a0 : Nat) (w : hw_H) : Prop := K k n 2 [some (.ref a0), some (.int (0 : Int32))] [] w
set_option maxHeartbeats 4000000 in
set_option maxRecDepth 100000 in
theorem sg_Mo_forget_0 (X : hw_X p m c cb_Mo_forget 2 s args (mw_Mo_forget) "ProofCourtModel" g A) {K : Nat → Nat → Nat → List (Option Value) → List Value → hw_H → Prop} {PR : Nat → Nat → hw_H → Prop} (hK : ∀ (k n pc : Nat) (lv : List (Option Value)) (st : List Value) (w : hw_H), K k n pc lv st w → hw_J p l e R s m args below meth c Q 2 g A k n pc lv st w) (rt : ∀ {k n pc : Nat} {lv : List (Option Value)} {w : hw_H}, decode cb_Mo_forget pc = .ok (.return_, 1) → PR k n w → hw_J p l e R s m args below meth c Q 2 g A k n pc lv [] w) {a0 : Nat} (vc : vc_Mo_forget_0 l g R K PR k n a0 w) : hw_J p l e R s m args below meth c Q 2 g A k n 0 [some (.ref a0), none] [] w := by
  unfold vc_Mo_forget_0 at vc
  refine hw_iconst X (v := 0) dd_Mo_forget_0 (by decide) ?_
  refine hw_istore_n X dd_Mo_forget_1 (by decide) rfl ?_
  exact hK _ _ _ _ _ _ vc
def vc_Mo_forget_2 (l : Launch) (g : hw_G) (R : Room) (K : Nat → Nat → Nat → List (Option Value) → List Value → hw_H → Prop) (PR : Nat → Nat → hw_H → Prop) (k n : Nat) (a0 : Nat) (x1 : Int32) (w : hw_H) : Prop := (((21 : Int32) ≤ x1) → (PR k n w)) ∧ ((¬ (21 : Int32) ≤ x1) → (∃ b_1 : Nat, hw_g w a0 8 18 (.ref b_1) ∧ (∃ w2 : hw_H, hw_as g 2 w b_1 x1 (vp_nar .boolean (0 : Int32)) w2 ∧ (K k n 2 [some (.ref a0), some (.int (x1 + 1))] [] w2))))
set_option maxHeartbeats 4000000 in
set_option maxRecDepth 100000 in
theorem sg_Mo_forget_2 (X : hw_X p m c cb_Mo_forget 2 s args (mw_Mo_forget) "ProofCourtModel" g A) {K : Nat → Nat → Nat → List (Option Value) → List Value → hw_H → Prop} {PR : Nat → Nat → hw_H → Prop} (hK : ∀ (k n pc : Nat) (lv : List (Option Value)) (st : List Value) (w : hw_H), K k n pc lv st w → hw_J p l e R s m args below meth c Q 2 g A k n pc lv st w) (rt : ∀ {k n pc : Nat} {lv : List (Option Value)} {w : hw_H}, decode cb_Mo_forget pc = .ok (.return_, 1) → PR k n w → hw_J p l e R s m args below meth c Q 2 g A k n pc lv [] w) {a0 : Nat} {x1 : Int32} (vc : vc_Mo_forget_2 l g R K PR k n a0 x1 w) : hw_J p l e R s m args below meth c Q 2 g A k n 2 [some (.ref a0), some (.int x1)] [] w := by
  unfold vc_Mo_forget_2 at vc
  refine hw_iload_n X dd_Mo_forget_2 rfl ?_
  refine hw_bipush X (v := 21) dd_Mo_forget_3 (by decide) ?_
  refine hw_icmp_ge X (tgt := 21) dd_Mo_forget_5 rfl (fun hc => ?_) (fun hc => ?_)
  · replace vc := vc.1 hc
    exact rt dd_Mo_forget_21 vc
  · replace vc := vc.2 hc
    refine hw_aload_n X (Or.inr ⟨_, rfl⟩) dd_Mo_forget_8 rfl ?_
    obtain ⟨b_1, h9, vc⟩ := vc
    refine hw_get X (fe_Mo_31 X) h9 dd_Mo_forget_9 ?_
    refine hw_iload_n X dd_Mo_forget_12 rfl ?_
    refine hw_iconst X (v := 0) dd_Mo_forget_13 (by decide) ?_
    obtain ⟨w2, h9, vc⟩ := vc
    refine hw_zast X h9 dd_Mo_forget_14 ?_
    refine hw_iinc X (v := (x1 + 1)) dd_Mo_forget_15 rfl rfl (by decide) rfl ?_
    refine hw_goto X (tgt := 2) dd_Mo_forget_18 rfl ?_
    exact hK _ _ _ _ _ _ vc
end
section
variable {p : Program} {l : Launch} {e : Env} {R : Room} {s : State} {m : MethodId} {args : Array Value} {below : List Frame} {meth : Method} {c : Code} {Q : State → Prop} {g : hw_G} {A : Nat → Prop} {k n : Nat} {w : hw_H}
def vc_Mo_told_0 (l : Launch) (g : hw_G) (R : Room) (K : Nat → Nat → Nat → List (Option Value) → List Value → hw_H → Prop) (PR : Nat → Nat → Int32 → hw_H → Prop) (k n : Nat) (a0 : Nat) (x1 : Int32) (w : hw_H) : Prop := K k n 7 [some (.ref a0), some (.int x1), some (.int (0 : Int32)), some (.int (0 : Int32)), some (.int (0 : Int32)), none] [] w
set_option maxHeartbeats 4000000 in
set_option maxRecDepth 100000 in
theorem sg_Mo_told_0 (X : hw_X p m c cb_Mo_told 6 s args (mw_Mo_told) "ProofCourtModel" g A) {K : Nat → Nat → Nat → List (Option Value) → List Value → hw_H → Prop} {PR : Nat → Nat → Int32 → hw_H → Prop} (hK : ∀ (k n pc : Nat) (lv : List (Option Value)) (st : List Value) (w : hw_H), K k n pc lv st w → hw_J p l e R s m args below meth c Q 6 g A k n pc lv st w) (rt : ∀ {k n pc : Nat} {lv : List (Option Value)} {x : Int32} {w : hw_H}, decode cb_Mo_told pc = .ok (.ireturn, 1) → PR k n x w → hw_J p l e R s m args below meth c Q 6 g A k n pc lv [.int x] w) {a0 : Nat} {x1 : Int32} (vc : vc_Mo_told_0 l g R K PR k n a0 x1 w) : hw_J p l e R s m args below meth c Q 6 g A k n 0 [some (.ref a0), some (.int x1), none, none, none, none] [] w := by
  unfold vc_Mo_told_0 at vc
  refine hw_iconst X (v := 0) dd_Mo_told_0 (by decide) ?_
  refine hw_istore_n X dd_Mo_told_1 (by decide) rfl ?_
  refine hw_iconst X (v := 0) dd_Mo_told_2 (by decide) ?_
  refine hw_istore_n X dd_Mo_told_3 (by decide) rfl ?_
  refine hw_iconst X (v := 0) dd_Mo_told_4 (by decide) ?_
  refine hw_istore X dd_Mo_told_5 (by decide) rfl ?_
  exact hK _ _ _ _ _ _ vc
def vc_Mo_told_7 (l : Launch) (g : hw_G) (R : Room) (K : Nat → Nat → Nat → List (Option Value) → List Value → hw_H → Prop) (PR : Nat → Nat → Int32 → hw_H → Prop) (k n : Nat) (a0 : Nat) (x1 : Int32) (x2 : Int32) (x3 : Int32) (x4 : Int32) (w : hw_H) : Prop := ∃ b_1 : Nat, hw_g w a0 8 9 (.ref b_1) ∧ (∃ x_2 : Int32, hw_ai g 0 w b_1 x1 x_2 ∧ (((x_2 ≤ x4) → (((¬ x2 = 0) → ((((1 : Int32) < x2) → (PR k n (99 : Int32) w)) ∧ ((¬ (1 : Int32) < x2) → (∃ b_3 : Nat, hw_g w a0 8 18 (.ref b_3) ∧ (∃ x_4 : Int32, hw_ai g 2 w b_3 ((10 : Int32) + x3) x_4 ∧ (((x_4 = 0) → (PR k n (x3 + (11 : Int32)) w)) ∧ ((¬ x_4 = 0) → (PR k n (99 : Int32) w)))))))) ∧ ((x2 = 0) → (PR k n (0 : Int32) w)))) ∧ ((¬ x_2 ≤ x4) → (∃ b_5 : Nat, hw_g w a0 8 18 (.ref b_5) ∧ (hw_o w a0 "ProofCourtModel" ∧ hw_ci l g R k n ym_Mo_literalOf (mw_Mo_literalOf) 3 [.ref a0, .int x1, .int x4] w (fun (k7 n8 : Nat) (x_9 : Int32) (w6 : hw_H) => ∃ x_10 : Int32, hw_ai g 2 w6 b_5 ((10 : Int32) - x_9) x_10 ∧ (((x_10 = 0) → (∀ y11 : Int32, y11 = (x2 + (1 : Int32)) → (((x_10 = 0) → (hw_o w6 a0 "ProofCourtModel" ∧ hw_ci l g R k7 n8 ym_Mo_literalOf (mw_Mo_literalOf) 3 [.ref a0, .int x1, .int x4] w6 (fun (k13 n14 : Nat) (x_15 : Int32) (w12 : hw_H) => K k13 n14 7 [some (.ref a0), some (.int x1), some (.int y11), some (.int x_15), some (.int (x4 + 1)), none] [] w12))) ∧ ((¬ x_10 = 0) → (K k7 n8 7 [some (.ref a0), some (.int x1), some (.int y11), some (.int x3), some (.int (x4 + 1)), none] [] w6))))) ∧ ((¬ x_10 = 0) → (((x_10 = 0) → (hw_o w6 a0 "ProofCourtModel" ∧ hw_ci l g R k7 n8 ym_Mo_literalOf (mw_Mo_literalOf) 3 [.ref a0, .int x1, .int x4] w6 (fun (k17 n18 : Nat) (x_19 : Int32) (w16 : hw_H) => K k17 n18 7 [some (.ref a0), some (.int x1), some (.int x2), some (.int x_19), some (.int (x4 + 1)), none] [] w16))) ∧ ((¬ x_10 = 0) → (K k7 n8 7 [some (.ref a0), some (.int x1), some (.int x2), some (.int x3), some (.int (x4 + 1)), none] [] w6)))))))))))
set_option maxHeartbeats 4000000 in
set_option maxRecDepth 100000 in
theorem sg_Mo_told_7 (X : hw_X p m c cb_Mo_told 6 s args (mw_Mo_told) "ProofCourtModel" g A) {K : Nat → Nat → Nat → List (Option Value) → List Value → hw_H → Prop} {PR : Nat → Nat → Int32 → hw_H → Prop} (hK : ∀ (k n pc : Nat) (lv : List (Option Value)) (st : List Value) (w : hw_H), K k n pc lv st w → hw_J p l e R s m args below meth c Q 6 g A k n pc lv st w) (rt : ∀ {k n pc : Nat} {lv : List (Option Value)} {x : Int32} {w : hw_H}, decode cb_Mo_told pc = .ok (.ireturn, 1) → PR k n x w → hw_J p l e R s m args below meth c Q 6 g A k n pc lv [.int x] w) {a0 : Nat} {x1 : Int32} {x2 : Int32} {x3 : Int32} {x4 : Int32} (vc : vc_Mo_told_7 l g R K PR k n a0 x1 x2 x3 x4 w) : hw_J p l e R s m args below meth c Q 6 g A k n 7 [some (.ref a0), some (.int x1), some (.int x2), some (.int x3), some (.int x4), none] [] w := by
  unfold vc_Mo_told_7 at vc
  refine hw_iload X dd_Mo_told_7 rfl ?_
  refine hw_aload_n X (Or.inr ⟨_, rfl⟩) dd_Mo_told_9 rfl ?_
  obtain ⟨b_1, h9, vc⟩ := vc
  refine hw_get X (fe_Mo_19 X) h9 dd_Mo_told_10 ?_
  refine hw_iload_n X dd_Mo_told_13 rfl ?_
  obtain ⟨x_2, h9, vc⟩ := vc
  refine hw_iald X h9 dd_Mo_told_14 ?_
  refine hw_icmp_ge X (tgt := 71) dd_Mo_told_15 rfl (fun hc => ?_) (fun hc => ?_)
  · replace vc := vc.1 hc
    refine hw_iload_n X dd_Mo_told_71 rfl ?_
    refine hw_if_ne X (tgt := 79) dd_Mo_told_72 rfl (fun hc => ?_) (fun hc => ?_)
    · replace vc := vc.1 hc
      refine hw_iload_n X dd_Mo_told_79 rfl ?_
      refine hw_iconst X (v := 1) dd_Mo_told_80 (by decide) ?_
      refine hw_icmp_gt X (tgt := 96) dd_Mo_told_81 rfl (fun hc => ?_) (fun hc => ?_)
      · replace vc := vc.1 hc
        refine hw_bipush X (v := 99) dd_Mo_told_96 (by decide) ?_
        refine hw_goto X (tgt := 105) dd_Mo_told_98 rfl ?_
        exact rt dd_Mo_told_105 vc
      · replace vc := vc.2 hc
        refine hw_aload_n X (Or.inr ⟨_, rfl⟩) dd_Mo_told_84 rfl ?_
        obtain ⟨b_3, h9, vc⟩ := vc
        refine hw_get X (fe_Mo_31 X) h9 dd_Mo_told_85 ?_
        refine hw_bipush X (v := 10) dd_Mo_told_88 (by decide) ?_
        refine hw_iload_n X dd_Mo_told_90 rfl ?_
        refine hw_iadd X dd_Mo_told_91 ?_
        obtain ⟨x_4, h9, vc⟩ := vc
        refine hw_zald X h9 dd_Mo_told_92 ?_
        refine hw_if_eq X (tgt := 101) dd_Mo_told_93 rfl (fun hc => ?_) (fun hc => ?_)
        · replace vc := vc.1 hc
          refine hw_iload_n X dd_Mo_told_101 rfl ?_
          refine hw_bipush X (v := 11) dd_Mo_told_102 (by decide) ?_
          refine hw_iadd X dd_Mo_told_104 ?_
          exact rt dd_Mo_told_105 vc
        · replace vc := vc.2 hc
          refine hw_bipush X (v := 99) dd_Mo_told_96 (by decide) ?_
          refine hw_goto X (tgt := 105) dd_Mo_told_98 rfl ?_
          exact rt dd_Mo_told_105 vc
    · replace vc := vc.2 hc
      refine hw_iconst X (v := 0) dd_Mo_told_75 (by decide) ?_
      refine hw_goto X (tgt := 105) dd_Mo_told_76 rfl ?_
      exact rt dd_Mo_told_105 vc
  · replace vc := vc.2 hc
    refine hw_aload_n X (Or.inr ⟨_, rfl⟩) dd_Mo_told_18 rfl ?_
    obtain ⟨b_5, h9, vc⟩ := vc
    refine hw_get X (fe_Mo_31 X) h9 dd_Mo_told_19 ?_
    refine hw_bipush X (v := 10) dd_Mo_told_22 (by decide) ?_
    refine hw_aload_n X (Or.inr ⟨_, rfl⟩) dd_Mo_told_24 rfl ?_
    refine hw_iload_n X dd_Mo_told_25 rfl ?_
    refine hw_iload X dd_Mo_told_26 rfl ?_
    obtain ⟨hob, rm9, po9, hM9, hf9, hc9, vc⟩ := vc
    refine hw_callVi X (As := [.int x1, .int x4]) (ye_Mo_76 X) hM9 rfl hf9 hc9 hob (Nat.le_of_ble_eq_true rfl) rfl dd_Mo_told_28 (fun x_9 w6 hp => ?_)
    replace vc := vc x_9 w6 hp
    refine hw_isub X dd_Mo_told_31 ?_
    obtain ⟨x_10, h9, vc⟩ := vc
    refine hw_zald X h9 dd_Mo_told_32 ?_
    refine hw_istore X dd_Mo_told_33 (by decide) rfl ?_
    refine hw_iload X dd_Mo_told_35 rfl ?_
    refine hw_if_eq X (tgt := 44) dd_Mo_told_37 rfl (fun hc => ?_) (fun hc => ?_)
    · replace vc := vc.1 hc
      refine hw_iload_n X dd_Mo_told_44 rfl ?_
      refine hw_iconst X (v := 1) dd_Mo_told_45 (by decide) ?_
      refine hw_iadd X dd_Mo_told_46 ?_
      refine hw_top (fun y11 ey11 => ?_)
      replace vc := vc y11 ey11
      refine hw_istore_n X dd_Mo_told_47 (by decide) rfl ?_
      refine hw_iload X dd_Mo_told_48 rfl ?_
      refine hw_if_eq X (tgt := 57) dd_Mo_told_50 rfl (fun hc => ?_) (fun hc => ?_)
      · replace vc := vc.1 hc
        refine hw_aload_n X (Or.inr ⟨_, rfl⟩) dd_Mo_told_57 rfl ?_
        refine hw_iload_n X dd_Mo_told_58 rfl ?_
        refine hw_iload X dd_Mo_told_59 rfl ?_
        obtain ⟨hob, rm9, po9, hM9, hf9, hc9, vc⟩ := vc
        refine hw_callVi X (As := [.int x1, .int x4]) (ye_Mo_76 X) hM9 rfl hf9 hc9 hob (Nat.le_of_ble_eq_true rfl) rfl dd_Mo_told_61 (fun x_15 w12 hp => ?_)
        replace vc := vc x_15 w12 hp
        refine hw_istore_n X dd_Mo_told_64 (by decide) rfl ?_
        refine hw_iinc X (v := (x4 + 1)) dd_Mo_told_65 rfl rfl (by decide) rfl ?_
        refine hw_goto X (tgt := 7) dd_Mo_told_68 rfl ?_
        exact hw_drop (lv9 := [some (.ref a0), some (.int x1), some (.int y11), some (.int x_15), some (.int (x4 + 1)), none]) (⟨rfl, ⟨rfl, ⟨rfl, ⟨rfl, ⟨rfl, ⟨trivial, trivial⟩⟩⟩⟩⟩⟩) (hK _ _ _ _ _ _ vc)
      · replace vc := vc.2 hc
        refine hw_iload_n X dd_Mo_told_53 rfl ?_
        refine hw_goto X (tgt := 64) dd_Mo_told_54 rfl ?_
        refine hw_istore_n X dd_Mo_told_64 (by decide) rfl ?_
        refine hw_iinc X (v := (x4 + 1)) dd_Mo_told_65 rfl rfl (by decide) rfl ?_
        refine hw_goto X (tgt := 7) dd_Mo_told_68 rfl ?_
        exact hw_drop (lv9 := [some (.ref a0), some (.int x1), some (.int y11), some (.int x3), some (.int (x4 + 1)), none]) (⟨rfl, ⟨rfl, ⟨rfl, ⟨rfl, ⟨rfl, ⟨trivial, trivial⟩⟩⟩⟩⟩⟩) (hK _ _ _ _ _ _ vc)
    · replace vc := vc.2 hc
      refine hw_iload_n X dd_Mo_told_40 rfl ?_
      refine hw_goto X (tgt := 47) dd_Mo_told_41 rfl ?_
      refine hw_istore_n X dd_Mo_told_47 (by decide) rfl ?_
      refine hw_iload X dd_Mo_told_48 rfl ?_
      refine hw_if_eq X (tgt := 57) dd_Mo_told_50 rfl (fun hc => ?_) (fun hc => ?_)
      · replace vc := vc.1 hc
        refine hw_aload_n X (Or.inr ⟨_, rfl⟩) dd_Mo_told_57 rfl ?_
        refine hw_iload_n X dd_Mo_told_58 rfl ?_
        refine hw_iload X dd_Mo_told_59 rfl ?_
        obtain ⟨hob, rm9, po9, hM9, hf9, hc9, vc⟩ := vc
        refine hw_callVi X (As := [.int x1, .int x4]) (ye_Mo_76 X) hM9 rfl hf9 hc9 hob (Nat.le_of_ble_eq_true rfl) rfl dd_Mo_told_61 (fun x_19 w16 hp => ?_)
        replace vc := vc x_19 w16 hp
        refine hw_istore_n X dd_Mo_told_64 (by decide) rfl ?_
        refine hw_iinc X (v := (x4 + 1)) dd_Mo_told_65 rfl rfl (by decide) rfl ?_
        refine hw_goto X (tgt := 7) dd_Mo_told_68 rfl ?_
        exact hw_drop (lv9 := [some (.ref a0), some (.int x1), some (.int x2), some (.int x_19), some (.int (x4 + 1)), none]) (⟨rfl, ⟨rfl, ⟨rfl, ⟨rfl, ⟨rfl, ⟨trivial, trivial⟩⟩⟩⟩⟩⟩) (hK _ _ _ _ _ _ vc)
      · replace vc := vc.2 hc
        refine hw_iload_n X dd_Mo_told_53 rfl ?_
        refine hw_goto X (tgt := 64) dd_Mo_told_54 rfl ?_
        refine hw_istore_n X dd_Mo_told_64 (by decide) rfl ?_
        refine hw_iinc X (v := (x4 + 1)) dd_Mo_told_65 rfl rfl (by decide) rfl ?_
        refine hw_goto X (tgt := 7) dd_Mo_told_68 rfl ?_
        exact hw_drop (lv9 := [some (.ref a0), some (.int x1), some (.int x2), some (.int x3), some (.int (x4 + 1)), none]) (⟨rfl, ⟨rfl, ⟨rfl, ⟨rfl, ⟨rfl, ⟨trivial, trivial⟩⟩⟩⟩⟩⟩) (hK _ _ _ _ _ _ vc)
end
section
variable {p : Program} {l : Launch} {e : Env} {R : Room} {s : State} {m : MethodId} {args : Array Value} {below : List Frame} {meth : Method} {c : Code} {Q : State → Prop} {g : hw_G} {A : Nat → Prop} {k n : Nat} {w : hw_H}
def vc_Mo_forced_0 (l : Launch) (g : hw_G) (R : Room) (K : Nat → Nat → Nat → List (Option Value) → List Value → hw_H → Prop) (PR : Nat → Nat → Int32 → hw_H → Prop) (k n : Nat) (a0 : Nat) (x1 : Int32) (x2 : Int32) (w : hw_H) : Prop := ∃ x_1 : Int32, hw_g w a0 8 8 (.int x_1) ∧ (∃ x_2 : Int32, hw_g w a0 8 8 (.int x_2) ∧ (hw_ci l g R k n ym_Mo_in (mw_Mo_in) 3 [.int x1, .int (-x_1), .int x_2] w (fun (k4 n5 : Nat) (x_6 : Int32) (w3 : hw_H) => ((x_6 = 0) → (PR k4 n5 (-2 : Int32) w3)) ∧ ((¬ x_6 = 0) → (∃ x_7 : Int32, hw_g w3 a0 8 8 (.int x_7) ∧ (∃ x_8 : Int32, hw_g w3 a0 8 8 (.int x_8) ∧ (hw_ci l g R k4 n5 ym_Mo_in (mw_Mo_in) 3 [.int x2, .int (-x_7), .int x_8] w3 (fun (k10 n11 : Nat) (x_12 : Int32) (w9 : hw_H) => ((x_12 = 0) → (PR k10 n11 (-2 : Int32) w9)) ∧ ((¬ x_12 = 0) → (((x1 = 0) → (K k10 n11 45 [some (.ref a0), some (.int x1), some (.int x2), none, none, none] [] w9)) ∧ ((¬ x1 = 0) → (((¬ x1 = (-x2)) → (K k10 n11 45 [some (.ref a0), some (.int x1), some (.int x2), none, none, none] [] w9)) ∧ ((x1 = (-x2)) → (PR k10 n11 (-2 : Int32) w9))))))))))))))
set_option maxHeartbeats 4000000 in
set_option maxRecDepth 100000 in
theorem sg_Mo_forced_0 (X : hw_X p m c cb_Mo_forced 6 s args (mw_Mo_forced) "ProofCourtModel" g A) {K : Nat → Nat → Nat → List (Option Value) → List Value → hw_H → Prop} {PR : Nat → Nat → Int32 → hw_H → Prop} (hK : ∀ (k n pc : Nat) (lv : List (Option Value)) (st : List Value) (w : hw_H), K k n pc lv st w → hw_J p l e R s m args below meth c Q 6 g A k n pc lv st w) (rt : ∀ {k n pc : Nat} {lv : List (Option Value)} {x : Int32} {w : hw_H}, decode cb_Mo_forced pc = .ok (.ireturn, 1) → PR k n x w → hw_J p l e R s m args below meth c Q 6 g A k n pc lv [.int x] w) {a0 : Nat} {x1 : Int32} {x2 : Int32} (vc : vc_Mo_forced_0 l g R K PR k n a0 x1 x2 w) : hw_J p l e R s m args below meth c Q 6 g A k n 0 [some (.ref a0), some (.int x1), some (.int x2), none, none, none] [] w := by
  unfold vc_Mo_forced_0 at vc
  refine hw_iload_n X dd_Mo_forced_0 rfl ?_
  refine hw_aload_n X (Or.inr ⟨_, rfl⟩) dd_Mo_forced_1 rfl ?_
  obtain ⟨x_1, h9, vc⟩ := vc
  refine hw_get X (fe_Mo_98 X) h9 dd_Mo_forced_2 ?_
  refine hw_ineg X dd_Mo_forced_5 ?_
  refine hw_aload_n X (Or.inr ⟨_, rfl⟩) dd_Mo_forced_6 rfl ?_
  obtain ⟨x_2, h9, vc⟩ := vc
  refine hw_get X (fe_Mo_98 X) h9 dd_Mo_forced_7 ?_
  obtain ⟨rm9, po9, hM9, hf9, hc9, vc⟩ := vc
  refine hw_callSi X (As := [.int x1, .int (-x_1), .int x_2]) (ye_Mo_38 X) hM9 rfl hf9 hc9 (Nat.le_of_ble_eq_true rfl) rfl dd_Mo_forced_10 (fun x_6 w3 hp => ?_)
  replace vc := vc x_6 w3 hp
  refine hw_if_eq X (tgt := 42) dd_Mo_forced_13 rfl (fun hc => ?_) (fun hc => ?_)
  · replace vc := vc.1 hc
    refine hw_bipush X (v := -2) dd_Mo_forced_42 (by decide) ?_
    exact rt dd_Mo_forced_44 vc
  · replace vc := vc.2 hc
    refine hw_iload_n X dd_Mo_forced_16 rfl ?_
    refine hw_aload_n X (Or.inr ⟨_, rfl⟩) dd_Mo_forced_17 rfl ?_
    obtain ⟨x_7, h9, vc⟩ := vc
    refine hw_get X (fe_Mo_98 X) h9 dd_Mo_forced_18 ?_
    refine hw_ineg X dd_Mo_forced_21 ?_
    refine hw_aload_n X (Or.inr ⟨_, rfl⟩) dd_Mo_forced_22 rfl ?_
    obtain ⟨x_8, h9, vc⟩ := vc
    refine hw_get X (fe_Mo_98 X) h9 dd_Mo_forced_23 ?_
    obtain ⟨rm9, po9, hM9, hf9, hc9, vc⟩ := vc
    refine hw_callSi X (As := [.int x2, .int (-x_7), .int x_8]) (ye_Mo_38 X) hM9 rfl hf9 hc9 (Nat.le_of_ble_eq_true rfl) rfl dd_Mo_forced_26 (fun x_12 w9 hp => ?_)
    replace vc := vc x_12 w9 hp
    refine hw_if_eq X (tgt := 42) dd_Mo_forced_29 rfl (fun hc => ?_) (fun hc => ?_)
    · replace vc := vc.1 hc
      refine hw_bipush X (v := -2) dd_Mo_forced_42 (by decide) ?_
      exact rt dd_Mo_forced_44 vc
    · replace vc := vc.2 hc
      refine hw_iload_n X dd_Mo_forced_32 rfl ?_
      refine hw_if_eq X (tgt := 45) dd_Mo_forced_33 rfl (fun hc => ?_) (fun hc => ?_)
      · replace vc := vc.1 hc
        exact hK _ _ _ _ _ _ vc
      · replace vc := vc.2 hc
        refine hw_iload_n X dd_Mo_forced_36 rfl ?_
        refine hw_iload_n X dd_Mo_forced_37 rfl ?_
        refine hw_ineg X dd_Mo_forced_38 ?_
        refine hw_icmp_ne X (tgt := 45) dd_Mo_forced_39 rfl (fun hc => ?_) (fun hc => ?_)
        · replace vc := vc.1 hc
          exact hK _ _ _ _ _ _ vc
        · replace vc := vc.2 hc
          refine hw_bipush X (v := -2) dd_Mo_forced_42 (by decide) ?_
          exact rt dd_Mo_forced_44 vc
def vc_Mo_forced_45 (l : Launch) (g : hw_G) (R : Room) (K : Nat → Nat → Nat → List (Option Value) → List Value → hw_H → Prop) (PR : Nat → Nat → Int32 → hw_H → Prop) (k n : Nat) (a0 : Nat) (x1 : Int32) (x2 : Int32) (w : hw_H) : Prop := hw_o w a0 "ProofCourtModel" ∧ hw_cv l g R k n ym_Mo_forget (mw_Mo_forget) 2 [.ref a0] w (fun (k2 n3 : Nat) (w1 : hw_H) => ∃ b_4 : Nat, hw_g w1 a0 8 18 (.ref b_4) ∧ (((x1 = 0) → (∃ w5 : hw_H, hw_as g 2 w1 b_4 ((10 : Int32) + x1) (vp_nar .boolean (0 : Int32)) w5 ∧ (∃ b_6 : Nat, hw_g w5 a0 8 18 (.ref b_6) ∧ (((¬ x2 = 0) → (∃ w7 : hw_H, hw_as g 2 w5 b_6 ((10 : Int32) + x2) (vp_nar .boolean (1 : Int32)) w7 ∧ (∃ b_8 : Nat, hw_g w7 a0 8 18 (.ref b_8) ∧ (∃ w9 : hw_H, hw_as g 2 w7 b_8 (10 : Int32) (vp_nar .boolean (0 : Int32)) w9 ∧ (K k2 n3 107 [some (.ref a0), some (.int x1), some (.int x2), some (.int (1 : Int32)), none, none] [] w9))))) ∧ ((x2 = 0) → (∃ b_10 : Nat, hw_g w5 a0 8 18 (.ref b_10) ∧ (∃ x_11 : Int32, hw_ai g 2 w5 b_10 ((10 : Int32) + x2) x_11 ∧ (((x_11 = 0) → (∃ w12 : hw_H, hw_as g 2 w5 b_6 ((10 : Int32) + x2) (vp_nar .boolean (0 : Int32)) w12 ∧ (∃ b_13 : Nat, hw_g w12 a0 8 18 (.ref b_13) ∧ (∃ w14 : hw_H, hw_as g 2 w12 b_13 (10 : Int32) (vp_nar .boolean (0 : Int32)) w14 ∧ (K k2 n3 107 [some (.ref a0), some (.int x1), some (.int x2), some (.int (1 : Int32)), none, none] [] w14))))) ∧ ((¬ x_11 = 0) → (∃ w15 : hw_H, hw_as g 2 w5 b_6 ((10 : Int32) + x2) (vp_nar .boolean (1 : Int32)) w15 ∧ (∃ b_16 : Nat, hw_g w15 a0 8 18 (.ref b_16) ∧ (∃ w17 : hw_H, hw_as g 2 w15 b_16 (10 : Int32) (vp_nar .boolean (0 : Int32)) w17 ∧ (K k2 n3 107 [some (.ref a0), some (.int x1), some (.int x2), some (.int (1 : Int32)), none, none] [] w17))))))))))))) ∧ ((¬ x1 = 0) → (∃ w18 : hw_H, hw_as g 2 w1 b_4 ((10 : Int32) + x1) (vp_nar .boolean (1 : Int32)) w18 ∧ (∃ b_19 : Nat, hw_g w18 a0 8 18 (.ref b_19) ∧ (((¬ x2 = 0) → (∃ w20 : hw_H, hw_as g 2 w18 b_19 ((10 : Int32) + x2) (vp_nar .boolean (1 : Int32)) w20 ∧ (∃ b_21 : Nat, hw_g w20 a0 8 18 (.ref b_21) ∧ (∃ w22 : hw_H, hw_as g 2 w20 b_21 (10 : Int32) (vp_nar .boolean (0 : Int32)) w22 ∧ (K k2 n3 107 [some (.ref a0), some (.int x1), some (.int x2), some (.int (1 : Int32)), none, none] [] w22))))) ∧ ((x2 = 0) → (∃ b_23 : Nat, hw_g w18 a0 8 18 (.ref b_23) ∧ (∃ x_24 : Int32, hw_ai g 2 w18 b_23 ((10 : Int32) + x2) x_24 ∧ (((x_24 = 0) → (∃ w25 : hw_H, hw_as g 2 w18 b_19 ((10 : Int32) + x2) (vp_nar .boolean (0 : Int32)) w25 ∧ (∃ b_26 : Nat, hw_g w25 a0 8 18 (.ref b_26) ∧ (∃ w27 : hw_H, hw_as g 2 w25 b_26 (10 : Int32) (vp_nar .boolean (0 : Int32)) w27 ∧ (K k2 n3 107 [some (.ref a0), some (.int x1), some (.int x2), some (.int (1 : Int32)), none, none] [] w27))))) ∧ ((¬ x_24 = 0) → (∃ w28 : hw_H, hw_as g 2 w18 b_19 ((10 : Int32) + x2) (vp_nar .boolean (1 : Int32)) w28 ∧ (∃ b_29 : Nat, hw_g w28 a0 8 18 (.ref b_29) ∧ (∃ w30 : hw_H, hw_as g 2 w28 b_29 (10 : Int32) (vp_nar .boolean (0 : Int32)) w30 ∧ (K k2 n3 107 [some (.ref a0), some (.int x1), some (.int x2), some (.int (1 : Int32)), none, none] [] w30)))))))))))))))
set_option maxHeartbeats 4000000 in
set_option maxRecDepth 100000 in
theorem sg_Mo_forced_45 (X : hw_X p m c cb_Mo_forced 6 s args (mw_Mo_forced) "ProofCourtModel" g A) {K : Nat → Nat → Nat → List (Option Value) → List Value → hw_H → Prop} {PR : Nat → Nat → Int32 → hw_H → Prop} (hK : ∀ (k n pc : Nat) (lv : List (Option Value)) (st : List Value) (w : hw_H), K k n pc lv st w → hw_J p l e R s m args below meth c Q 6 g A k n pc lv st w) (rt : ∀ {k n pc : Nat} {lv : List (Option Value)} {x : Int32} {w : hw_H}, decode cb_Mo_forced pc = .ok (.ireturn, 1) → PR k n x w → hw_J p l e R s m args below meth c Q 6 g A k n pc lv [.int x] w) {a0 : Nat} {x1 : Int32} {x2 : Int32} (vc : vc_Mo_forced_45 l g R K PR k n a0 x1 x2 w) : hw_J p l e R s m args below meth c Q 6 g A k n 45 [some (.ref a0), some (.int x1), some (.int x2), none, none, none] [] w := by
  unfold vc_Mo_forced_45 at vc
  refine hw_aload_n X (Or.inr ⟨_, rfl⟩) dd_Mo_forced_45 rfl ?_
  obtain ⟨hob, rm9, po9, hM9, hf9, hc9, vc⟩ := vc
  refine hw_callVv X (As := []) (ye_Mo_130 X) hM9 rfl hf9 hc9 hob (Nat.le_of_ble_eq_true rfl) rfl dd_Mo_forced_46 (fun w1 hp => ?_)
  replace vc := vc w1 hp
  refine hw_aload_n X (Or.inr ⟨_, rfl⟩) dd_Mo_forced_49 rfl ?_
  obtain ⟨b_4, h9, vc⟩ := vc
  refine hw_get X (fe_Mo_31 X) h9 dd_Mo_forced_50 ?_
  refine hw_bipush X (v := 10) dd_Mo_forced_53 (by decide) ?_
  refine hw_iload_n X dd_Mo_forced_55 rfl ?_
  refine hw_iadd X dd_Mo_forced_56 ?_
  refine hw_iload_n X dd_Mo_forced_57 rfl ?_
  refine hw_if_eq X (tgt := 65) dd_Mo_forced_58 rfl (fun hc => ?_) (fun hc => ?_)
  · replace vc := vc.1 hc
    refine hw_iconst X (v := 0) dd_Mo_forced_65 (by decide) ?_
    obtain ⟨w5, h9, vc⟩ := vc
    refine hw_zast X h9 dd_Mo_forced_66 ?_
    refine hw_aload_n X (Or.inr ⟨_, rfl⟩) dd_Mo_forced_67 rfl ?_
    obtain ⟨b_6, h9, vc⟩ := vc
    refine hw_get X (fe_Mo_31 X) h9 dd_Mo_forced_68 ?_
    refine hw_bipush X (v := 10) dd_Mo_forced_71 (by decide) ?_
    refine hw_iload_n X dd_Mo_forced_73 rfl ?_
    refine hw_iadd X dd_Mo_forced_74 ?_
    refine hw_iload_n X dd_Mo_forced_75 rfl ?_
    refine hw_if_ne X (tgt := 91) dd_Mo_forced_76 rfl (fun hc => ?_) (fun hc => ?_)
    · replace vc := vc.1 hc
      refine hw_iconst X (v := 1) dd_Mo_forced_91 (by decide) ?_
      refine hw_goto X (tgt := 96) dd_Mo_forced_92 rfl ?_
      obtain ⟨w7, h9, vc⟩ := vc
      refine hw_zast X h9 dd_Mo_forced_96 ?_
      refine hw_aload_n X (Or.inr ⟨_, rfl⟩) dd_Mo_forced_97 rfl ?_
      obtain ⟨b_8, h9, vc⟩ := vc
      refine hw_get X (fe_Mo_31 X) h9 dd_Mo_forced_98 ?_
      refine hw_bipush X (v := 10) dd_Mo_forced_101 (by decide) ?_
      refine hw_iconst X (v := 0) dd_Mo_forced_103 (by decide) ?_
      obtain ⟨w9, h9, vc⟩ := vc
      refine hw_zast X h9 dd_Mo_forced_104 ?_
      refine hw_iconst X (v := 1) dd_Mo_forced_105 (by decide) ?_
      refine hw_istore_n X dd_Mo_forced_106 (by decide) rfl ?_
      exact hK _ _ _ _ _ _ vc
    · replace vc := vc.2 hc
      refine hw_aload_n X (Or.inr ⟨_, rfl⟩) dd_Mo_forced_79 rfl ?_
      obtain ⟨b_10, h9, vc⟩ := vc
      refine hw_get X (fe_Mo_31 X) h9 dd_Mo_forced_80 ?_
      refine hw_bipush X (v := 10) dd_Mo_forced_83 (by decide) ?_
      refine hw_iload_n X dd_Mo_forced_85 rfl ?_
      refine hw_iadd X dd_Mo_forced_86 ?_
      obtain ⟨x_11, h9, vc⟩ := vc
      refine hw_zald X h9 dd_Mo_forced_87 ?_
      refine hw_if_eq X (tgt := 95) dd_Mo_forced_88 rfl (fun hc => ?_) (fun hc => ?_)
      · replace vc := vc.1 hc
        refine hw_iconst X (v := 0) dd_Mo_forced_95 (by decide) ?_
        obtain ⟨w12, h9, vc⟩ := vc
        refine hw_zast X h9 dd_Mo_forced_96 ?_
        refine hw_aload_n X (Or.inr ⟨_, rfl⟩) dd_Mo_forced_97 rfl ?_
        obtain ⟨b_13, h9, vc⟩ := vc
        refine hw_get X (fe_Mo_31 X) h9 dd_Mo_forced_98 ?_
        refine hw_bipush X (v := 10) dd_Mo_forced_101 (by decide) ?_
        refine hw_iconst X (v := 0) dd_Mo_forced_103 (by decide) ?_
        obtain ⟨w14, h9, vc⟩ := vc
        refine hw_zast X h9 dd_Mo_forced_104 ?_
        refine hw_iconst X (v := 1) dd_Mo_forced_105 (by decide) ?_
        refine hw_istore_n X dd_Mo_forced_106 (by decide) rfl ?_
        exact hK _ _ _ _ _ _ vc
      · replace vc := vc.2 hc
        refine hw_iconst X (v := 1) dd_Mo_forced_91 (by decide) ?_
        refine hw_goto X (tgt := 96) dd_Mo_forced_92 rfl ?_
        obtain ⟨w15, h9, vc⟩ := vc
        refine hw_zast X h9 dd_Mo_forced_96 ?_
        refine hw_aload_n X (Or.inr ⟨_, rfl⟩) dd_Mo_forced_97 rfl ?_
        obtain ⟨b_16, h9, vc⟩ := vc
        refine hw_get X (fe_Mo_31 X) h9 dd_Mo_forced_98 ?_
        refine hw_bipush X (v := 10) dd_Mo_forced_101 (by decide) ?_
        refine hw_iconst X (v := 0) dd_Mo_forced_103 (by decide) ?_
        obtain ⟨w17, h9, vc⟩ := vc
        refine hw_zast X h9 dd_Mo_forced_104 ?_
        refine hw_iconst X (v := 1) dd_Mo_forced_105 (by decide) ?_
        refine hw_istore_n X dd_Mo_forced_106 (by decide) rfl ?_
        exact hK _ _ _ _ _ _ vc
  · replace vc := vc.2 hc
    refine hw_iconst X (v := 1) dd_Mo_forced_61 (by decide) ?_
    refine hw_goto X (tgt := 66) dd_Mo_forced_62 rfl ?_
    obtain ⟨w18, h9, vc⟩ := vc
    refine hw_zast X h9 dd_Mo_forced_66 ?_
    refine hw_aload_n X (Or.inr ⟨_, rfl⟩) dd_Mo_forced_67 rfl ?_
    obtain ⟨b_19, h9, vc⟩ := vc
    refine hw_get X (fe_Mo_31 X) h9 dd_Mo_forced_68 ?_
    refine hw_bipush X (v := 10) dd_Mo_forced_71 (by decide) ?_
    refine hw_iload_n X dd_Mo_forced_73 rfl ?_
    refine hw_iadd X dd_Mo_forced_74 ?_
    refine hw_iload_n X dd_Mo_forced_75 rfl ?_
    refine hw_if_ne X (tgt := 91) dd_Mo_forced_76 rfl (fun hc => ?_) (fun hc => ?_)
    · replace vc := vc.1 hc
      refine hw_iconst X (v := 1) dd_Mo_forced_91 (by decide) ?_
      refine hw_goto X (tgt := 96) dd_Mo_forced_92 rfl ?_
      obtain ⟨w20, h9, vc⟩ := vc
      refine hw_zast X h9 dd_Mo_forced_96 ?_
      refine hw_aload_n X (Or.inr ⟨_, rfl⟩) dd_Mo_forced_97 rfl ?_
      obtain ⟨b_21, h9, vc⟩ := vc
      refine hw_get X (fe_Mo_31 X) h9 dd_Mo_forced_98 ?_
      refine hw_bipush X (v := 10) dd_Mo_forced_101 (by decide) ?_
      refine hw_iconst X (v := 0) dd_Mo_forced_103 (by decide) ?_
      obtain ⟨w22, h9, vc⟩ := vc
      refine hw_zast X h9 dd_Mo_forced_104 ?_
      refine hw_iconst X (v := 1) dd_Mo_forced_105 (by decide) ?_
      refine hw_istore_n X dd_Mo_forced_106 (by decide) rfl ?_
      exact hK _ _ _ _ _ _ vc
    · replace vc := vc.2 hc
      refine hw_aload_n X (Or.inr ⟨_, rfl⟩) dd_Mo_forced_79 rfl ?_
      obtain ⟨b_23, h9, vc⟩ := vc
      refine hw_get X (fe_Mo_31 X) h9 dd_Mo_forced_80 ?_
      refine hw_bipush X (v := 10) dd_Mo_forced_83 (by decide) ?_
      refine hw_iload_n X dd_Mo_forced_85 rfl ?_
      refine hw_iadd X dd_Mo_forced_86 ?_
      obtain ⟨x_24, h9, vc⟩ := vc
      refine hw_zald X h9 dd_Mo_forced_87 ?_
      refine hw_if_eq X (tgt := 95) dd_Mo_forced_88 rfl (fun hc => ?_) (fun hc => ?_)
      · replace vc := vc.1 hc
        refine hw_iconst X (v := 0) dd_Mo_forced_95 (by decide) ?_
        obtain ⟨w25, h9, vc⟩ := vc
        refine hw_zast X h9 dd_Mo_forced_96 ?_
        refine hw_aload_n X (Or.inr ⟨_, rfl⟩) dd_Mo_forced_97 rfl ?_
        obtain ⟨b_26, h9, vc⟩ := vc
        refine hw_get X (fe_Mo_31 X) h9 dd_Mo_forced_98 ?_
        refine hw_bipush X (v := 10) dd_Mo_forced_101 (by decide) ?_
        refine hw_iconst X (v := 0) dd_Mo_forced_103 (by decide) ?_
        obtain ⟨w27, h9, vc⟩ := vc
        refine hw_zast X h9 dd_Mo_forced_104 ?_
        refine hw_iconst X (v := 1) dd_Mo_forced_105 (by decide) ?_
        refine hw_istore_n X dd_Mo_forced_106 (by decide) rfl ?_
        exact hK _ _ _ _ _ _ vc
      · replace vc := vc.2 hc
        refine hw_iconst X (v := 1) dd_Mo_forced_91 (by decide) ?_
        refine hw_goto X (tgt := 96) dd_Mo_forced_92 rfl ?_
        obtain ⟨w28, h9, vc⟩ := vc
        refine hw_zast X h9 dd_Mo_forced_96 ?_
        refine hw_aload_n X (Or.inr ⟨_, rfl⟩) dd_Mo_forced_97 rfl ?_
        obtain ⟨b_29, h9, vc⟩ := vc
        refine hw_get X (fe_Mo_31 X) h9 dd_Mo_forced_98 ?_
        refine hw_bipush X (v := 10) dd_Mo_forced_101 (by decide) ?_
        refine hw_iconst X (v := 0) dd_Mo_forced_103 (by decide) ?_
        obtain ⟨w30, h9, vc⟩ := vc
        refine hw_zast X h9 dd_Mo_forced_104 ?_
        refine hw_iconst X (v := 1) dd_Mo_forced_105 (by decide) ?_
        refine hw_istore_n X dd_Mo_forced_106 (by decide) rfl ?_
        exact hK _ _ _ _ _ _ vc
def vc_Mo_forced_107 (l : Launch) (g : hw_G) (R : Room) (K : Nat → Nat → Nat → List (Option Value) → List Value → hw_H → Prop) (PR : Nat → Nat → Int32 → hw_H → Prop) (k n : Nat) (a0 : Nat) (x1 : Int32) (x2 : Int32) (x3 : Int32) (w : hw_H) : Prop := ((x3 = 0) → (K k n 174 [some (.ref a0), some (.int x1), some (.int x2), some (.int x3), some (.int (0 : Int32)), some (.int (0 : Int32))] [] w)) ∧ ((¬ x3 = 0) → (K k n 116 [some (.ref a0), some (.int x1), some (.int x2), some (.int (0 : Int32)), some (.int (0 : Int32)), none] [] w))
set_option maxHeartbeats 4000000 in
set_option maxRecDepth 100000 in
theorem sg_Mo_forced_107 (X : hw_X p m c cb_Mo_forced 6 s args (mw_Mo_forced) "ProofCourtModel" g A) {K : Nat → Nat → Nat → List (Option Value) → List Value → hw_H → Prop} {PR : Nat → Nat → Int32 → hw_H → Prop} (hK : ∀ (k n pc : Nat) (lv : List (Option Value)) (st : List Value) (w : hw_H), K k n pc lv st w → hw_J p l e R s m args below meth c Q 6 g A k n pc lv st w) (rt : ∀ {k n pc : Nat} {lv : List (Option Value)} {x : Int32} {w : hw_H}, decode cb_Mo_forced pc = .ok (.ireturn, 1) → PR k n x w → hw_J p l e R s m args below meth c Q 6 g A k n pc lv [.int x] w) {a0 : Nat} {x1 : Int32} {x2 : Int32} {x3 : Int32} (vc : vc_Mo_forced_107 l g R K PR k n a0 x1 x2 x3 w) : hw_J p l e R s m args below meth c Q 6 g A k n 107 [some (.ref a0), some (.int x1), some (.int x2), some (.int x3), none, none] [] w := by
  unfold vc_Mo_forced_107 at vc
  refine hw_iload_n X dd_Mo_forced_107 rfl ?_
  refine hw_if_eq X (tgt := 168) dd_Mo_forced_108 rfl (fun hc => ?_) (fun hc => ?_)
  · replace vc := vc.1 hc
    refine hw_iconst X (v := 0) dd_Mo_forced_168 (by decide) ?_
    refine hw_istore X dd_Mo_forced_169 (by decide) rfl ?_
    refine hw_iconst X (v := 0) dd_Mo_forced_171 (by decide) ?_
    refine hw_istore X dd_Mo_forced_172 (by decide) rfl ?_
    exact hK _ _ _ _ _ _ vc
  · replace vc := vc.2 hc
    refine hw_iconst X (v := 0) dd_Mo_forced_111 (by decide) ?_
    refine hw_istore_n X dd_Mo_forced_112 (by decide) rfl ?_
    refine hw_iconst X (v := 0) dd_Mo_forced_113 (by decide) ?_
    refine hw_istore X dd_Mo_forced_114 (by decide) rfl ?_
    exact hK _ _ _ _ _ _ vc
def vc_Mo_forced_116 (l : Launch) (g : hw_G) (R : Room) (K : Nat → Nat → Nat → List (Option Value) → List Value → hw_H → Prop) (PR : Nat → Nat → Int32 → hw_H → Prop) (k n : Nat) (a0 : Nat) (x1 : Int32) (x2 : Int32) (x3 : Int32) (x4 : Int32) (w : hw_H) : Prop := ∃ x_1 : Int32, hw_g w a0 8 12 (.int x_1) ∧ (((x_1 ≤ x4) → (K k n 107 [some (.ref a0), some (.int x1), some (.int x2), some (.int x3), none, none] [] w)) ∧ ((¬ x_1 ≤ x4) → (hw_o w a0 "ProofCourtModel" ∧ hw_ci l g R k n ym_Mo_told (mw_Mo_told) 6 [.ref a0, .int x4] w (fun (k3 n4 : Nat) (x_5 : Int32) (w2 : hw_H) => ((¬ x_5 = 0) → ((((99 : Int32) ≤ x_5) → (K k3 n4 116 [some (.ref a0), some (.int x1), some (.int x2), some (.int x3), some (.int (x4 + 1)), none] [] w2)) ∧ ((¬ (99 : Int32) ≤ x_5) → (∃ b_6 : Nat, hw_g w2 a0 8 18 (.ref b_6) ∧ (∃ w7 : hw_H, hw_as g 2 w2 b_6 (x_5 - (1 : Int32)) (vp_nar .boolean (1 : Int32)) w7 ∧ (K k3 n4 116 [some (.ref a0), some (.int x1), some (.int x2), some (.int (1 : Int32)), some (.int (x4 + 1)), none] [] w7)))))) ∧ ((x_5 = 0) → (PR k3 n4 (-1 : Int32) w2))))))
set_option maxHeartbeats 4000000 in
set_option maxRecDepth 100000 in
theorem sg_Mo_forced_116 (X : hw_X p m c cb_Mo_forced 6 s args (mw_Mo_forced) "ProofCourtModel" g A) {K : Nat → Nat → Nat → List (Option Value) → List Value → hw_H → Prop} {PR : Nat → Nat → Int32 → hw_H → Prop} (hK : ∀ (k n pc : Nat) (lv : List (Option Value)) (st : List Value) (w : hw_H), K k n pc lv st w → hw_J p l e R s m args below meth c Q 6 g A k n pc lv st w) (rt : ∀ {k n pc : Nat} {lv : List (Option Value)} {x : Int32} {w : hw_H}, decode cb_Mo_forced pc = .ok (.ireturn, 1) → PR k n x w → hw_J p l e R s m args below meth c Q 6 g A k n pc lv [.int x] w) {a0 : Nat} {x1 : Int32} {x2 : Int32} {x3 : Int32} {x4 : Int32} (vc : vc_Mo_forced_116 l g R K PR k n a0 x1 x2 x3 x4 w) : hw_J p l e R s m args below meth c Q 6 g A k n 116 [some (.ref a0), some (.int x1), some (.int x2), some (.int x3), some (.int x4), none] [] w := by
  unfold vc_Mo_forced_116 at vc
  refine hw_iload X dd_Mo_forced_116 rfl ?_
  refine hw_aload_n X (Or.inr ⟨_, rfl⟩) dd_Mo_forced_118 rfl ?_
  obtain ⟨x_1, h9, vc⟩ := vc
  refine hw_get X (fe_Mo_101 X) h9 dd_Mo_forced_119 ?_
  refine hw_icmp_ge X (tgt := 165) dd_Mo_forced_122 rfl (fun hc => ?_) (fun hc => ?_)
  · replace vc := vc.1 hc
    refine hw_goto X (tgt := 107) dd_Mo_forced_165 rfl ?_
    exact hw_drop (lv9 := [some (.ref a0), some (.int x1), some (.int x2), some (.int x3), none, none]) (⟨rfl, ⟨rfl, ⟨rfl, ⟨rfl, ⟨trivial, ⟨trivial, trivial⟩⟩⟩⟩⟩⟩) (hK _ _ _ _ _ _ vc)
  · replace vc := vc.2 hc
    refine hw_aload_n X (Or.inr ⟨_, rfl⟩) dd_Mo_forced_125 rfl ?_
    refine hw_iload X dd_Mo_forced_126 rfl ?_
    obtain ⟨hob, rm9, po9, hM9, hf9, hc9, vc⟩ := vc
    refine hw_callVi X (As := [.int x4]) (ye_Mo_133 X) hM9 rfl hf9 hc9 hob (Nat.le_of_ble_eq_true rfl) rfl dd_Mo_forced_128 (fun x_5 w2 hp => ?_)
    replace vc := vc x_5 w2 hp
    refine hw_istore X dd_Mo_forced_131 (by decide) rfl ?_
    refine hw_iload X dd_Mo_forced_133 rfl ?_
    refine hw_if_ne X (tgt := 140) dd_Mo_forced_135 rfl (fun hc => ?_) (fun hc => ?_)
    · replace vc := vc.1 hc
      refine hw_iload X dd_Mo_forced_140 rfl ?_
      refine hw_bipush X (v := 99) dd_Mo_forced_142 (by decide) ?_
      refine hw_icmp_ge X (tgt := 159) dd_Mo_forced_144 rfl (fun hc => ?_) (fun hc => ?_)
      · replace vc := vc.1 hc
        refine hw_iinc X (v := (x4 + 1)) dd_Mo_forced_159 rfl rfl (by decide) rfl ?_
        refine hw_goto X (tgt := 116) dd_Mo_forced_162 rfl ?_
        exact hw_drop (lv9 := [some (.ref a0), some (.int x1), some (.int x2), some (.int x3), some (.int (x4 + 1)), none]) (⟨rfl, ⟨rfl, ⟨rfl, ⟨rfl, ⟨rfl, ⟨trivial, trivial⟩⟩⟩⟩⟩⟩) (hK _ _ _ _ _ _ vc)
      · replace vc := vc.2 hc
        refine hw_aload_n X (Or.inr ⟨_, rfl⟩) dd_Mo_forced_147 rfl ?_
        obtain ⟨b_6, h9, vc⟩ := vc
        refine hw_get X (fe_Mo_31 X) h9 dd_Mo_forced_148 ?_
        refine hw_iload X dd_Mo_forced_151 rfl ?_
        refine hw_iconst X (v := 1) dd_Mo_forced_153 (by decide) ?_
        refine hw_isub X dd_Mo_forced_154 ?_
        refine hw_iconst X (v := 1) dd_Mo_forced_155 (by decide) ?_
        obtain ⟨w7, h9, vc⟩ := vc
        refine hw_zast X h9 dd_Mo_forced_156 ?_
        refine hw_iconst X (v := 1) dd_Mo_forced_157 (by decide) ?_
        refine hw_istore_n X dd_Mo_forced_158 (by decide) rfl ?_
        refine hw_iinc X (v := (x4 + 1)) dd_Mo_forced_159 rfl rfl (by decide) rfl ?_
        refine hw_goto X (tgt := 116) dd_Mo_forced_162 rfl ?_
        exact hw_drop (lv9 := [some (.ref a0), some (.int x1), some (.int x2), some (.int (1 : Int32)), some (.int (x4 + 1)), none]) (⟨rfl, ⟨rfl, ⟨rfl, ⟨rfl, ⟨rfl, ⟨trivial, trivial⟩⟩⟩⟩⟩⟩) (hK _ _ _ _ _ _ vc)
    · replace vc := vc.2 hc
      refine hw_iconst X (v := -1) dd_Mo_forced_138 (by decide) ?_
      exact rt dd_Mo_forced_139 vc
def vc_Mo_forced_174 (l : Launch) (g : hw_G) (R : Room) (K : Nat → Nat → Nat → List (Option Value) → List Value → hw_H → Prop) (PR : Nat → Nat → Int32 → hw_H → Prop) (k n : Nat) (a0 : Nat) (x1 : Int32) (x2 : Int32) (x3 : Int32) (x4 : Int32) (x5 : Int32) (w : hw_H) : Prop := (((21 : Int32) ≤ x5) → (PR k n x4 w)) ∧ ((¬ (21 : Int32) ≤ x5) → (∃ b_1 : Nat, hw_g w a0 8 18 (.ref b_1) ∧ (∃ x_2 : Int32, hw_ai g 2 w b_1 x5 x_2 ∧ (((x_2 = 0) → (K k n 174 [some (.ref a0), some (.int x1), some (.int x2), some (.int x3), some (.int x4), some (.int (x5 + 1))] [] w)) ∧ ((¬ x_2 = 0) → (∀ y3 : Int32, y3 = (x4 + (1 : Int32)) → (K k n 174 [some (.ref a0), some (.int x1), some (.int x2), some (.int x3), some (.int y3), some (.int (x5 + 1))] [] w)))))))
set_option maxHeartbeats 4000000 in
set_option maxRecDepth 100000 in
theorem sg_Mo_forced_174 (X : hw_X p m c cb_Mo_forced 6 s args (mw_Mo_forced) "ProofCourtModel" g A) {K : Nat → Nat → Nat → List (Option Value) → List Value → hw_H → Prop} {PR : Nat → Nat → Int32 → hw_H → Prop} (hK : ∀ (k n pc : Nat) (lv : List (Option Value)) (st : List Value) (w : hw_H), K k n pc lv st w → hw_J p l e R s m args below meth c Q 6 g A k n pc lv st w) (rt : ∀ {k n pc : Nat} {lv : List (Option Value)} {x : Int32} {w : hw_H}, decode cb_Mo_forced pc = .ok (.ireturn, 1) → PR k n x w → hw_J p l e R s m args below meth c Q 6 g A k n pc lv [.int x] w) {a0 : Nat} {x1 : Int32} {x2 : Int32} {x3 : Int32} {x4 : Int32} {x5 : Int32} (vc : vc_Mo_forced_174 l g R K PR k n a0 x1 x2 x3 x4 x5 w) : hw_J p l e R s m args below meth c Q 6 g A k n 174 [some (.ref a0), some (.int x1), some (.int x2), some (.int x3), some (.int x4), some (.int x5)] [] w := by
  unfold vc_Mo_forced_174 at vc
  refine hw_iload X dd_Mo_forced_174 rfl ?_
  refine hw_bipush X (v := 21) dd_Mo_forced_176 (by decide) ?_
  refine hw_icmp_ge X (tgt := 208) dd_Mo_forced_178 rfl (fun hc => ?_) (fun hc => ?_)
  · replace vc := vc.1 hc
    refine hw_iload X dd_Mo_forced_208 rfl ?_
    exact rt dd_Mo_forced_210 vc
  · replace vc := vc.2 hc
    refine hw_aload_n X (Or.inr ⟨_, rfl⟩) dd_Mo_forced_181 rfl ?_
    obtain ⟨b_1, h9, vc⟩ := vc
    refine hw_get X (fe_Mo_31 X) h9 dd_Mo_forced_182 ?_
    refine hw_iload X dd_Mo_forced_185 rfl ?_
    obtain ⟨x_2, h9, vc⟩ := vc
    refine hw_zald X h9 dd_Mo_forced_187 ?_
    refine hw_if_eq X (tgt := 198) dd_Mo_forced_188 rfl (fun hc => ?_) (fun hc => ?_)
    · replace vc := vc.1 hc
      refine hw_iload X dd_Mo_forced_198 rfl ?_
      refine hw_istore X dd_Mo_forced_200 (by decide) rfl ?_
      refine hw_iinc X (v := (x5 + 1)) dd_Mo_forced_202 rfl rfl (by decide) rfl ?_
      refine hw_goto X (tgt := 174) dd_Mo_forced_205 rfl ?_
      exact hK _ _ _ _ _ _ vc
    · replace vc := vc.2 hc
      refine hw_iload X dd_Mo_forced_191 rfl ?_
      refine hw_iconst X (v := 1) dd_Mo_forced_193 (by decide) ?_
      refine hw_iadd X dd_Mo_forced_194 ?_
      refine hw_goto X (tgt := 200) dd_Mo_forced_195 rfl ?_
      refine hw_top (fun y3 ey3 => ?_)
      replace vc := vc y3 ey3
      refine hw_istore X dd_Mo_forced_200 (by decide) rfl ?_
      refine hw_iinc X (v := (x5 + 1)) dd_Mo_forced_202 rfl rfl (by decide) rfl ?_
      refine hw_goto X (tgt := 174) dd_Mo_forced_205 rfl ?_
      exact hK _ _ _ _ _ _ vc
end
section
variable {p : Program} {l : Launch} {e : Env} {R : Room} {s : State} {m : MethodId} {args : Array Value} {below : List Frame} {meth : Method} {c : Code} {Q : State → Prop} {g : hw_G} {A : Nat → Prop} {k n : Nat} {w : hw_H}
def vc_Mo_readHints_0 (l : Launch) (g : hw_G) (R : Room) (K : Nat → Nat → Nat → List (Option Value) → List Value → hw_H → Prop) (PR : Nat → Nat → hw_H → Prop) (k n : Nat) (a0 : Nat) (x1 : Int32) (w : hw_H) : Prop := ∃ w1 : hw_H, hw_p w a0 8 16 (.int (0 : Int32)) w1 ∧ (K k n 7 [some (.ref a0), some (.int x1), some (.int (1 : Int32)), none, none] [] w1)
set_option maxHeartbeats 4000000 in
set_option maxRecDepth 100000 in
theorem sg_Mo_readHints_0 (X : hw_X p m c cb_Mo_readHints 5 s args (mw_Mo_readHints) "ProofCourtModel" g A) {K : Nat → Nat → Nat → List (Option Value) → List Value → hw_H → Prop} {PR : Nat → Nat → hw_H → Prop} (hK : ∀ (k n pc : Nat) (lv : List (Option Value)) (st : List Value) (w : hw_H), K k n pc lv st w → hw_J p l e R s m args below meth c Q 5 g A k n pc lv st w) (rt : ∀ {k n pc : Nat} {lv : List (Option Value)} {w : hw_H}, decode cb_Mo_readHints pc = .ok (.return_, 1) → PR k n w → hw_J p l e R s m args below meth c Q 5 g A k n pc lv [] w) {a0 : Nat} {x1 : Int32} (vc : vc_Mo_readHints_0 l g R K PR k n a0 x1 w) : hw_J p l e R s m args below meth c Q 5 g A k n 0 [some (.ref a0), some (.int x1), none, none, none] [] w := by
  unfold vc_Mo_readHints_0 at vc
  refine hw_aload_n X (Or.inr ⟨_, rfl⟩) dd_Mo_readHints_0 rfl ?_
  refine hw_iconst X (v := 0) dd_Mo_readHints_1 (by decide) ?_
  obtain ⟨w1, h9, vc⟩ := vc
  refine hw_put X (fp_Mo_136 X) rfl rfl h9 dd_Mo_readHints_2 ?_
  refine hw_iconst X (v := 1) dd_Mo_readHints_5 (by decide) ?_
  refine hw_istore_n X dd_Mo_readHints_6 (by decide) rfl ?_
  exact hK _ _ _ _ _ _ vc
def vc_Mo_readHints_7 (l : Launch) (g : hw_G) (R : Room) (K : Nat → Nat → Nat → List (Option Value) → List Value → hw_H → Prop) (PR : Nat → Nat → hw_H → Prop) (k n : Nat) (a0 : Nat) (x1 : Int32) (x2 : Int32) (w : hw_H) : Prop := ((x2 = 0) → (PR k n w)) ∧ ((¬ x2 = 0) → (∃ x_1 : Int32, hw_g w a0 8 7 (.int x_1) ∧ (((0 ≤ x_1) → (PR k n w)) ∧ ((¬ 0 ≤ x_1) → (∃ x_2 : Int32, hw_g w a0 8 5 (.int x_2) ∧ (hw_o w a0 "ProofCourtModel" ∧ hw_ci l g R k n ym_Mo_take (mw_Mo_take) 4 [.ref a0, .int x1, .int (999 : Int32)] w (fun (k4 n5 : Nat) (x_6 : Int32) (w3 : hw_H) => ((x_6 = 0) → (K k4 n5 7 [some (.ref a0), some (.int x1), some (.int (0 : Int32)), none, none] [] w3)) ∧ ((¬ x_6 = 0) → (∃ x_7 : Int32, hw_g w3 a0 8 16 (.int x_7) ∧ (((¬ x_7 = (12 : Int32)) → (∃ b_8 : Nat, hw_g w3 a0 8 17 (.ref b_8) ∧ (∃ x_9 : Int32, hw_g w3 a0 8 16 (.int x_9) ∧ (∃ w10 : hw_H, hw_as g 0 w3 b_8 x_9 x_6 w10 ∧ (∃ x_11 : Int32, hw_g w10 a0 8 16 (.int x_11) ∧ (∃ w12 : hw_H, hw_p w10 a0 8 16 (.int (x_11 + (1 : Int32))) w12 ∧ (K k4 n5 7 [some (.ref a0), some (.int x1), some (.int (1 : Int32)), none, none] [] w12))))))) ∧ ((x_7 = (12 : Int32)) → (∃ w13 : hw_H, hw_p w3 a0 8 5 (.int x_2) w13 ∧ (hw_o w13 a0 "ProofCourtModel" ∧ hw_cv l g R k4 n5 ym_Mo_fail (mw_Mo_fail) 1 [.ref a0] w13 (fun (k15 n16 : Nat) (w14 : hw_H) => K k15 n16 7 [some (.ref a0), some (.int x1), some (.int (1 : Int32)), none, none] [] w14))))))))))))))
set_option maxHeartbeats 4000000 in
set_option maxRecDepth 100000 in
theorem sg_Mo_readHints_7 (X : hw_X p m c cb_Mo_readHints 5 s args (mw_Mo_readHints) "ProofCourtModel" g A) {K : Nat → Nat → Nat → List (Option Value) → List Value → hw_H → Prop} {PR : Nat → Nat → hw_H → Prop} (hK : ∀ (k n pc : Nat) (lv : List (Option Value)) (st : List Value) (w : hw_H), K k n pc lv st w → hw_J p l e R s m args below meth c Q 5 g A k n pc lv st w) (rt : ∀ {k n pc : Nat} {lv : List (Option Value)} {w : hw_H}, decode cb_Mo_readHints pc = .ok (.return_, 1) → PR k n w → hw_J p l e R s m args below meth c Q 5 g A k n pc lv [] w) {a0 : Nat} {x1 : Int32} {x2 : Int32} (vc : vc_Mo_readHints_7 l g R K PR k n a0 x1 x2 w) : hw_J p l e R s m args below meth c Q 5 g A k n 7 [some (.ref a0), some (.int x1), some (.int x2), none, none] [] w := by
  unfold vc_Mo_readHints_7 at vc
  refine hw_iload_n X dd_Mo_readHints_7 rfl ?_
  refine hw_if_eq X (tgt := 97) dd_Mo_readHints_8 rfl (fun hc => ?_) (fun hc => ?_)
  · replace vc := vc.1 hc
    exact rt dd_Mo_readHints_97 vc
  · replace vc := vc.2 hc
    refine hw_aload_n X (Or.inr ⟨_, rfl⟩) dd_Mo_readHints_11 rfl ?_
    obtain ⟨x_1, h9, vc⟩ := vc
    refine hw_get X (fe_Mo_52 X) h9 dd_Mo_readHints_12 ?_
    refine hw_if_ge X (tgt := 97) dd_Mo_readHints_15 rfl (fun hc => ?_) (fun hc => ?_)
    · replace vc := vc.1 hc
      exact rt dd_Mo_readHints_97 vc
    · replace vc := vc.2 hc
      refine hw_aload_n X (Or.inr ⟨_, rfl⟩) dd_Mo_readHints_18 rfl ?_
      obtain ⟨x_2, h9, vc⟩ := vc
      refine hw_get X (fe_Mo_49 X) h9 dd_Mo_readHints_19 ?_
      refine hw_istore_n X dd_Mo_readHints_22 (by decide) rfl ?_
      refine hw_aload_n X (Or.inr ⟨_, rfl⟩) dd_Mo_readHints_23 rfl ?_
      refine hw_iload_n X dd_Mo_readHints_24 rfl ?_
      refine hw_sipush X (v := 999) dd_Mo_readHints_25 (by decide) ?_
      obtain ⟨hob, rm9, po9, hM9, hf9, hc9, vc⟩ := vc
      refine hw_callVi X (As := [.int x1, .int (999 : Int32)]) (ye_Mo_80 X) hM9 rfl hf9 hc9 hob (Nat.le_of_ble_eq_true rfl) rfl dd_Mo_readHints_28 (fun x_6 w3 hp => ?_)
      replace vc := vc x_6 w3 hp
      refine hw_istore X dd_Mo_readHints_31 (by decide) rfl ?_
      refine hw_iload X dd_Mo_readHints_33 rfl ?_
      refine hw_if_eq X (tgt := 42) dd_Mo_readHints_35 rfl (fun hc => ?_) (fun hc => ?_)
      · replace vc := vc.1 hc
        refine hw_iconst X (v := 0) dd_Mo_readHints_42 (by decide) ?_
        refine hw_istore_n X dd_Mo_readHints_43 (by decide) rfl ?_
        refine hw_iload_n X dd_Mo_readHints_44 rfl ?_
        refine hw_if_eq X (tgt := 69) dd_Mo_readHints_45 rfl (fun _ => ?_) (fun hc => absurd hc (by decide))
        refine hw_iload_n X dd_Mo_readHints_69 rfl ?_
        refine hw_if_eq X (tgt := 94) dd_Mo_readHints_70 rfl (fun _ => ?_) (fun hc => absurd hc (by decide))
        refine hw_goto X (tgt := 7) dd_Mo_readHints_94 rfl ?_
        exact hw_drop (lv9 := [some (.ref a0), some (.int x1), some (.int (0 : Int32)), none, none]) (⟨rfl, ⟨rfl, ⟨rfl, ⟨trivial, ⟨trivial, trivial⟩⟩⟩⟩⟩) (hK _ _ _ _ _ _ vc)
      · replace vc := vc.2 hc
        refine hw_iconst X (v := 1) dd_Mo_readHints_38 (by decide) ?_
        refine hw_goto X (tgt := 43) dd_Mo_readHints_39 rfl ?_
        refine hw_istore_n X dd_Mo_readHints_43 (by decide) rfl ?_
        refine hw_iload_n X dd_Mo_readHints_44 rfl ?_
        refine hw_if_eq X (tgt := 69) dd_Mo_readHints_45 rfl (fun hc => absurd hc (by decide)) (fun _ => ?_)
        refine hw_aload_n X (Or.inr ⟨_, rfl⟩) dd_Mo_readHints_48 rfl ?_
        obtain ⟨x_7, h9, vc⟩ := vc
        refine hw_get X (fe_Mo_136 X) h9 dd_Mo_readHints_49 ?_
        refine hw_bipush X (v := 12) dd_Mo_readHints_52 (by decide) ?_
        refine hw_icmp_ne X (tgt := 69) dd_Mo_readHints_54 rfl (fun hc => ?_) (fun hc => ?_)
        · replace vc := vc.1 hc
          refine hw_iload_n X dd_Mo_readHints_69 rfl ?_
          refine hw_if_eq X (tgt := 94) dd_Mo_readHints_70 rfl (fun hc => absurd hc (by decide)) (fun _ => ?_)
          refine hw_aload_n X (Or.inr ⟨_, rfl⟩) dd_Mo_readHints_73 rfl ?_
          obtain ⟨b_8, h9, vc⟩ := vc
          refine hw_get X (fe_Mo_28 X) h9 dd_Mo_readHints_74 ?_
          refine hw_aload_n X (Or.inr ⟨_, rfl⟩) dd_Mo_readHints_77 rfl ?_
          obtain ⟨x_9, h9, vc⟩ := vc
          refine hw_get X (fe_Mo_136 X) h9 dd_Mo_readHints_78 ?_
          refine hw_iload X dd_Mo_readHints_81 rfl ?_
          obtain ⟨w10, h9, vc⟩ := vc
          refine hw_iast X h9 dd_Mo_readHints_83 ?_
          refine hw_aload_n X (Or.inr ⟨_, rfl⟩) dd_Mo_readHints_84 rfl ?_
          refine hw_aload_n X (Or.inr ⟨_, rfl⟩) dd_Mo_readHints_85 rfl ?_
          obtain ⟨x_11, h9, vc⟩ := vc
          refine hw_get X (fe_Mo_136 X) h9 dd_Mo_readHints_86 ?_
          refine hw_iconst X (v := 1) dd_Mo_readHints_89 (by decide) ?_
          refine hw_iadd X dd_Mo_readHints_90 ?_
          obtain ⟨w12, h9, vc⟩ := vc
          refine hw_put X (fp_Mo_136 X) rfl rfl h9 dd_Mo_readHints_91 ?_
          refine hw_goto X (tgt := 7) dd_Mo_readHints_94 rfl ?_
          exact hw_drop (lv9 := [some (.ref a0), some (.int x1), some (.int (1 : Int32)), none, none]) (⟨rfl, ⟨rfl, ⟨rfl, ⟨trivial, ⟨trivial, trivial⟩⟩⟩⟩⟩) (hK _ _ _ _ _ _ vc)
        · replace vc := vc.2 hc
          refine hw_aload_n X (Or.inr ⟨_, rfl⟩) dd_Mo_readHints_57 rfl ?_
          refine hw_iload_n X dd_Mo_readHints_58 rfl ?_
          obtain ⟨w13, h9, vc⟩ := vc
          refine hw_put X (fp_Mo_49 X) rfl rfl h9 dd_Mo_readHints_59 ?_
          refine hw_aload_n X (Or.inr ⟨_, rfl⟩) dd_Mo_readHints_62 rfl ?_
          obtain ⟨hob, rm9, po9, hM9, hf9, hc9, vc⟩ := vc
          refine hw_callVv X (As := []) (ye_Mo_65 X) hM9 rfl hf9 hc9 hob (Nat.le_of_ble_eq_true rfl) rfl dd_Mo_readHints_63 (fun w14 hp => ?_)
          replace vc := vc w14 hp
          refine hw_goto X (tgt := 94) dd_Mo_readHints_66 rfl ?_
          refine hw_goto X (tgt := 7) dd_Mo_readHints_94 rfl ?_
          exact hw_drop (lv9 := [some (.ref a0), some (.int x1), some (.int (1 : Int32)), none, none]) (⟨rfl, ⟨rfl, ⟨rfl, ⟨trivial, ⟨trivial, trivial⟩⟩⟩⟩⟩) (hK _ _ _ _ _ _ vc)
end
section
variable {p : Program} {l : Launch} {e : Env} {R : Room} {s : State} {m : MethodId} {args : Array Value} {below : List Frame} {meth : Method} {c : Code} {Q : State → Prop} {g : hw_G} {A : Nat → Prop} {k n : Nat} {w : hw_H}
def vc_Mo_line_0 (l : Launch) (g : hw_G) (R : Room) (K : Nat → Nat → Nat → List (Option Value) → List Value → hw_H → Prop) (PR : Nat → Nat → Int32 → hw_H → Prop) (k n : Nat) (a0 : Nat) (w : hw_H) : Prop := hw_o w a0 "ProofCourtModel" ∧ hw_cv l g R k n ym_Mo_cut (mw_Mo_cut) 6 [.ref a0, .int (0 : Int32)] w (fun (k2 n3 : Nat) (w1 : hw_H) => hw_o w1 a0 "ProofCourtModel" ∧ hw_ci l g R k2 n3 ym_Mo_take (mw_Mo_take) 4 [.ref a0, .int (1 : Int32), .int (999 : Int32)] w1 (fun (k5 n6 : Nat) (x_7 : Int32) (w4 : hw_H) => ∃ x_8 : Int32, hw_g w4 a0 8 7 (.int x_8) ∧ (((0 ≤ x_8) → (K k5 n6 36 [some (.ref a0), some (.int x_7), none] [] w4)) ∧ ((¬ 0 ≤ x_8) → (hw_o w4 a0 "ProofCourtModel" ∧ hw_ci l g R k5 n6 ym_Mo_isWord (mw_Mo_isWord) 6 [.ref a0, .int (100 : Int32), .int (0 : Int32), .int (0 : Int32)] w4 (fun (k10 n11 : Nat) (x_12 : Int32) (w9 : hw_H) => ((x_12 = 0) → (K k10 n11 36 [some (.ref a0), some (.int x_7), none] [] w9)) ∧ ((¬ x_12 = 0) → (K k10 n11 37 [some (.ref a0), some (.int x_7), none] [.int (1 : Int32)] w9))))))))
set_option maxHeartbeats 4000000 in
set_option maxRecDepth 100000 in
theorem sg_Mo_line_0 (X : hw_X p m c cb_Mo_line 3 s args (mw_Mo_line) "ProofCourtModel" g A) {K : Nat → Nat → Nat → List (Option Value) → List Value → hw_H → Prop} {PR : Nat → Nat → Int32 → hw_H → Prop} (hK : ∀ (k n pc : Nat) (lv : List (Option Value)) (st : List Value) (w : hw_H), K k n pc lv st w → hw_J p l e R s m args below meth c Q 3 g A k n pc lv st w) (rt : ∀ {k n pc : Nat} {lv : List (Option Value)} {x : Int32} {w : hw_H}, decode cb_Mo_line pc = .ok (.ireturn, 1) → PR k n x w → hw_J p l e R s m args below meth c Q 3 g A k n pc lv [.int x] w) {a0 : Nat} (vc : vc_Mo_line_0 l g R K PR k n a0 w) : hw_J p l e R s m args below meth c Q 3 g A k n 0 [some (.ref a0), none, none] [] w := by
  unfold vc_Mo_line_0 at vc
  refine hw_aload_n X (Or.inr ⟨_, rfl⟩) dd_Mo_line_0 rfl ?_
  refine hw_iconst X (v := 0) dd_Mo_line_1 (by decide) ?_
  obtain ⟨hob, rm9, po9, hM9, hf9, hc9, vc⟩ := vc
  refine hw_callVv X (As := [.int (0 : Int32)]) (ye_Mo_86 X) hM9 rfl hf9 hc9 hob (Nat.le_of_ble_eq_true rfl) rfl dd_Mo_line_2 (fun w1 hp => ?_)
  replace vc := vc w1 hp
  refine hw_aload_n X (Or.inr ⟨_, rfl⟩) dd_Mo_line_5 rfl ?_
  refine hw_iconst X (v := 1) dd_Mo_line_6 (by decide) ?_
  refine hw_sipush X (v := 999) dd_Mo_line_7 (by decide) ?_
  obtain ⟨hob, rm9, po9, hM9, hf9, hc9, vc⟩ := vc
  refine hw_callVi X (As := [.int (1 : Int32), .int (999 : Int32)]) (ye_Mo_80 X) hM9 rfl hf9 hc9 hob (Nat.le_of_ble_eq_true rfl) rfl dd_Mo_line_10 (fun x_7 w4 hp => ?_)
  replace vc := vc x_7 w4 hp
  refine hw_istore_n X dd_Mo_line_13 (by decide) rfl ?_
  refine hw_aload_n X (Or.inr ⟨_, rfl⟩) dd_Mo_line_14 rfl ?_
  obtain ⟨x_8, h9, vc⟩ := vc
  refine hw_get X (fe_Mo_52 X) h9 dd_Mo_line_15 ?_
  refine hw_if_ge X (tgt := 36) dd_Mo_line_18 rfl (fun hc => ?_) (fun hc => ?_)
  · replace vc := vc.1 hc
    exact hK _ _ _ _ _ _ vc
  · replace vc := vc.2 hc
    refine hw_aload_n X (Or.inr ⟨_, rfl⟩) dd_Mo_line_21 rfl ?_
    refine hw_bipush X (v := 100) dd_Mo_line_22 (by decide) ?_
    refine hw_iconst X (v := 0) dd_Mo_line_24 (by decide) ?_
    refine hw_iconst X (v := 0) dd_Mo_line_25 (by decide) ?_
    obtain ⟨hob, rm9, po9, hM9, hf9, hc9, vc⟩ := vc
    refine hw_callVi X (As := [.int (100 : Int32), .int (0 : Int32), .int (0 : Int32)]) (ye_Mo_62 X) hM9 rfl hf9 hc9 hob (Nat.le_of_ble_eq_true rfl) rfl dd_Mo_line_26 (fun x_12 w9 hp => ?_)
    replace vc := vc x_12 w9 hp
    refine hw_if_eq X (tgt := 36) dd_Mo_line_29 rfl (fun hc => ?_) (fun hc => ?_)
    · replace vc := vc.1 hc
      exact hK _ _ _ _ _ _ vc
    · replace vc := vc.2 hc
      refine hw_iconst X (v := 1) dd_Mo_line_32 (by decide) ?_
      refine hw_goto X (tgt := 37) dd_Mo_line_33 rfl ?_
      exact hK _ _ _ _ _ _ vc
def vc_Mo_line_36 (l : Launch) (g : hw_G) (R : Room) (K : Nat → Nat → Nat → List (Option Value) → List Value → hw_H → Prop) (PR : Nat → Nat → Int32 → hw_H → Prop) (k n : Nat) (a0 : Nat) (x1 : Int32) (w : hw_H) : Prop := K k n 37 [some (.ref a0), some (.int x1), none] [.int (0 : Int32)] w
set_option maxHeartbeats 4000000 in
set_option maxRecDepth 100000 in
theorem sg_Mo_line_36 (X : hw_X p m c cb_Mo_line 3 s args (mw_Mo_line) "ProofCourtModel" g A) {K : Nat → Nat → Nat → List (Option Value) → List Value → hw_H → Prop} {PR : Nat → Nat → Int32 → hw_H → Prop} (hK : ∀ (k n pc : Nat) (lv : List (Option Value)) (st : List Value) (w : hw_H), K k n pc lv st w → hw_J p l e R s m args below meth c Q 3 g A k n pc lv st w) (rt : ∀ {k n pc : Nat} {lv : List (Option Value)} {x : Int32} {w : hw_H}, decode cb_Mo_line pc = .ok (.ireturn, 1) → PR k n x w → hw_J p l e R s m args below meth c Q 3 g A k n pc lv [.int x] w) {a0 : Nat} {x1 : Int32} (vc : vc_Mo_line_36 l g R K PR k n a0 x1 w) : hw_J p l e R s m args below meth c Q 3 g A k n 36 [some (.ref a0), some (.int x1), none] [] w := by
  unfold vc_Mo_line_36 at vc
  refine hw_iconst X (v := 0) dd_Mo_line_36 (by decide) ?_
  exact hK _ _ _ _ _ _ vc
def vc_Mo_line_37 (l : Launch) (g : hw_G) (R : Room) (K : Nat → Nat → Nat → List (Option Value) → List Value → hw_H → Prop) (PR : Nat → Nat → Int32 → hw_H → Prop) (k n : Nat) (a0 : Nat) (x1 : Int32) (u0 : Int32) (w : hw_H) : Prop := ((u0 = 0) → (∃ x_1 : Int32, hw_g w a0 8 8 (.int x_1) ∧ (hw_o w a0 "ProofCourtModel" ∧ hw_cv l g R k n ym_Mo_readClause (mw_Mo_readClause) 6 [.ref a0, .int (64 : Int32), .int x_1] w (fun (k3 n4 : Nat) (w2 : hw_H) => hw_o w2 a0 "ProofCourtModel" ∧ hw_cv l g R k3 n4 ym_Mo_readHints (mw_Mo_readHints) 5 [.ref a0, .int (-999 : Int32)] w2 (fun (k6 n7 : Nat) (w5 : hw_H) => ∃ x_8 : Int32, hw_g w5 a0 8 7 (.int x_8) ∧ (((0 ≤ x_8) → (∃ x_9 : Int32, hw_g w5 a0 8 7 (.int x_9) ∧ (((x_9 < 0) → (((u0 = 0) → (hw_o w5 a0 "ProofCourtModel" ∧ hw_ci l g R k6 n7 ym_Mo_add (mw_Mo_add) 2 [.ref a0, .int x1] w5 (fun (k11 n12 : Nat) (x_13 : Int32) (w10 : hw_H) => PR k11 n12 x_13 w10))) ∧ ((¬ u0 = 0) → (hw_o w5 a0 "ProofCourtModel" ∧ hw_ci l g R k6 n7 ym_Mo_delete (mw_Mo_delete) 4 [.ref a0] w5 (fun (k15 n16 : Nat) (x_17 : Int32) (w14 : hw_H) => PR k15 n16 x_17 w14))))) ∧ ((¬ x_9 < 0) → (∃ x_18 : Int32, hw_g w5 a0 8 7 (.int x_18) ∧ (PR k6 n7 ((-1 : Int32) - x_18) w5)))))) ∧ ((¬ 0 ≤ x_8) → (∃ x_19 : Int32, hw_g w5 a0 8 5 (.int x_19) ∧ (∃ x_20 : Int32, hw_g w5 a0 8 2 (.int x_20) ∧ (((x_20 ≤ x_19) → (∃ x_21 : Int32, hw_g w5 a0 8 7 (.int x_21) ∧ (((x_21 < 0) → (((u0 = 0) → (hw_o w5 a0 "ProofCourtModel" ∧ hw_ci l g R k6 n7 ym_Mo_add (mw_Mo_add) 2 [.ref a0, .int x1] w5 (fun (k23 n24 : Nat) (x_25 : Int32) (w22 : hw_H) => PR k23 n24 x_25 w22))) ∧ ((¬ u0 = 0) → (hw_o w5 a0 "ProofCourtModel" ∧ hw_ci l g R k6 n7 ym_Mo_delete (mw_Mo_delete) 4 [.ref a0] w5 (fun (k27 n28 : Nat) (x_29 : Int32) (w26 : hw_H) => PR k27 n28 x_29 w26))))) ∧ ((¬ x_21 < 0) → (∃ x_30 : Int32, hw_g w5 a0 8 7 (.int x_30) ∧ (PR k6 n7 ((-1 : Int32) - x_30) w5)))))) ∧ ((¬ x_20 ≤ x_19) → (hw_o w5 a0 "ProofCourtModel" ∧ hw_cv l g R k6 n7 ym_Mo_fail (mw_Mo_fail) 1 [.ref a0] w5 (fun (k32 n33 : Nat) (w31 : hw_H) => ∃ x_34 : Int32, hw_g w31 a0 8 7 (.int x_34) ∧ (((x_34 < 0) → (((u0 = 0) → (hw_o w31 a0 "ProofCourtModel" ∧ hw_ci l g R k32 n33 ym_Mo_add (mw_Mo_add) 2 [.ref a0, .int x1] w31 (fun (k36 n37 : Nat) (x_38 : Int32) (w35 : hw_H) => PR k36 n37 x_38 w35))) ∧ ((¬ u0 = 0) → (hw_o w31 a0 "ProofCourtModel" ∧ hw_ci l g R k32 n33 ym_Mo_delete (mw_Mo_delete) 4 [.ref a0] w31 (fun (k40 n41 : Nat) (x_42 : Int32) (w39 : hw_H) => PR k40 n41 x_42 w39))))) ∧ ((¬ x_34 < 0) → (∃ x_43 : Int32, hw_g w31 a0 8 7 (.int x_43) ∧ (PR k32 n33 ((-1 : Int32) - x_43) w31))))))))))))))))) ∧ ((¬ u0 = 0) → (∃ x_44 : Int32, hw_g w a0 8 5 (.int x_44) ∧ (∃ w45 : hw_H, hw_p w a0 8 5 (.int (x_44 + (1 : Int32))) w45 ∧ (hw_o w45 a0 "ProofCourtModel" ∧ hw_cv l g R k n ym_Mo_readHints (mw_Mo_readHints) 5 [.ref a0, .int (0 : Int32)] w45 (fun (k47 n48 : Nat) (w46 : hw_H) => ∃ x_49 : Int32, hw_g w46 a0 8 7 (.int x_49) ∧ (((0 ≤ x_49) → (∃ x_50 : Int32, hw_g w46 a0 8 7 (.int x_50) ∧ (((x_50 < 0) → (((u0 = 0) → (hw_o w46 a0 "ProofCourtModel" ∧ hw_ci l g R k47 n48 ym_Mo_add (mw_Mo_add) 2 [.ref a0, .int x1] w46 (fun (k52 n53 : Nat) (x_54 : Int32) (w51 : hw_H) => PR k52 n53 x_54 w51))) ∧ ((¬ u0 = 0) → (hw_o w46 a0 "ProofCourtModel" ∧ hw_ci l g R k47 n48 ym_Mo_delete (mw_Mo_delete) 4 [.ref a0] w46 (fun (k56 n57 : Nat) (x_58 : Int32) (w55 : hw_H) => PR k56 n57 x_58 w55))))) ∧ ((¬ x_50 < 0) → (∃ x_59 : Int32, hw_g w46 a0 8 7 (.int x_59) ∧ (PR k47 n48 ((-1 : Int32) - x_59) w46)))))) ∧ ((¬ 0 ≤ x_49) → (∃ x_60 : Int32, hw_g w46 a0 8 5 (.int x_60) ∧ (∃ x_61 : Int32, hw_g w46 a0 8 2 (.int x_61) ∧ (((x_61 ≤ x_60) → (∃ x_62 : Int32, hw_g w46 a0 8 7 (.int x_62) ∧ (((x_62 < 0) → (((u0 = 0) → (hw_o w46 a0 "ProofCourtModel" ∧ hw_ci l g R k47 n48 ym_Mo_add (mw_Mo_add) 2 [.ref a0, .int x1] w46 (fun (k64 n65 : Nat) (x_66 : Int32) (w63 : hw_H) => PR k64 n65 x_66 w63))) ∧ ((¬ u0 = 0) → (hw_o w46 a0 "ProofCourtModel" ∧ hw_ci l g R k47 n48 ym_Mo_delete (mw_Mo_delete) 4 [.ref a0] w46 (fun (k68 n69 : Nat) (x_70 : Int32) (w67 : hw_H) => PR k68 n69 x_70 w67))))) ∧ ((¬ x_62 < 0) → (∃ x_71 : Int32, hw_g w46 a0 8 7 (.int x_71) ∧ (PR k47 n48 ((-1 : Int32) - x_71) w46)))))) ∧ ((¬ x_61 ≤ x_60) → (hw_o w46 a0 "ProofCourtModel" ∧ hw_cv l g R k47 n48 ym_Mo_fail (mw_Mo_fail) 1 [.ref a0] w46 (fun (k73 n74 : Nat) (w72 : hw_H) => ∃ x_75 : Int32, hw_g w72 a0 8 7 (.int x_75) ∧ (((x_75 < 0) → (((u0 = 0) → (hw_o w72 a0 "ProofCourtModel" ∧ hw_ci l g R k73 n74 ym_Mo_add (mw_Mo_add) 2 [.ref a0, .int x1] w72 (fun (k77 n78 : Nat) (x_79 : Int32) (w76 : hw_H) => PR k77 n78 x_79 w76))) ∧ ((¬ u0 = 0) → (hw_o w72 a0 "ProofCourtModel" ∧ hw_ci l g R k73 n74 ym_Mo_delete (mw_Mo_delete) 4 [.ref a0] w72 (fun (k81 n82 : Nat) (x_83 : Int32) (w80 : hw_H) => PR k81 n82 x_83 w80))))) ∧ ((¬ x_75 < 0) → (∃ x_84 : Int32, hw_g w72 a0 8 7 (.int x_84) ∧ (PR k73 n74 ((-1 : Int32) - x_84) w72)))))))))))))))))
set_option maxHeartbeats 4000000 in
set_option maxRecDepth 100000 in
theorem sg_Mo_line_37 (X : hw_X p m c cb_Mo_line 3 s args (mw_Mo_line) "ProofCourtModel" g A) {K : Nat → Nat → Nat → List (Option Value) → List Value → hw_H → Prop} {PR : Nat → Nat → Int32 → hw_H → Prop} (hK : ∀ (k n pc : Nat) (lv : List (Option Value)) (st : List Value) (w : hw_H), K k n pc lv st w → hw_J p l e R s m args below meth c Q 3 g A k n pc lv st w) (rt : ∀ {k n pc : Nat} {lv : List (Option Value)} {x : Int32} {w : hw_H}, decode cb_Mo_line pc = .ok (.ireturn, 1) → PR k n x w → hw_J p l e R s m args below meth c Q 3 g A k n pc lv [.int x] w) {a0 : Nat} {x1 : Int32} {u0 : Int32} (vc : vc_Mo_line_37 l g R K PR k n a0 x1 u0 w) : hw_J p l e R s m args below meth c Q 3 g A k n 37 [some (.ref a0), some (.int x1), none] [.int u0] w := by
  unfold vc_Mo_line_37 at vc
  refine hw_istore_n X dd_Mo_line_37 (by decide) rfl ?_
  refine hw_iload_n X dd_Mo_line_38 rfl ?_
  refine hw_if_eq X (tgt := 60) dd_Mo_line_39 rfl (fun hc => ?_) (fun hc => ?_)
  · replace vc := vc.1 hc
    refine hw_aload_n X (Or.inr ⟨_, rfl⟩) dd_Mo_line_60 rfl ?_
    refine hw_bipush X (v := 64) dd_Mo_line_61 (by decide) ?_
    refine hw_aload_n X (Or.inr ⟨_, rfl⟩) dd_Mo_line_63 rfl ?_
    obtain ⟨x_1, h9, vc⟩ := vc
    refine hw_get X (fe_Mo_98 X) h9 dd_Mo_line_64 ?_
    obtain ⟨hob, rm9, po9, hM9, hf9, hc9, vc⟩ := vc
    refine hw_callVv X (As := [.int (64 : Int32), .int x_1]) (ye_Mo_94 X) hM9 rfl hf9 hc9 hob (Nat.le_of_ble_eq_true rfl) rfl dd_Mo_line_67 (fun w2 hp => ?_)
    replace vc := vc w2 hp
    refine hw_aload_n X (Or.inr ⟨_, rfl⟩) dd_Mo_line_70 rfl ?_
    refine hw_sipush X (v := -999) dd_Mo_line_71 (by decide) ?_
    obtain ⟨hob, rm9, po9, hM9, hf9, hc9, vc⟩ := vc
    refine hw_callVv X (As := [.int (-999 : Int32)]) (ye_Mo_139 X) hM9 rfl hf9 hc9 hob (Nat.le_of_ble_eq_true rfl) rfl dd_Mo_line_74 (fun w5 hp => ?_)
    replace vc := vc w5 hp
    refine hw_aload_n X (Or.inr ⟨_, rfl⟩) dd_Mo_line_77 rfl ?_
    obtain ⟨x_8, h9, vc⟩ := vc
    refine hw_get X (fe_Mo_52 X) h9 dd_Mo_line_78 ?_
    refine hw_if_ge X (tgt := 99) dd_Mo_line_81 rfl (fun hc => ?_) (fun hc => ?_)
    · replace vc := vc.1 hc
      refine hw_aload_n X (Or.inr ⟨_, rfl⟩) dd_Mo_line_99 rfl ?_
      obtain ⟨x_9, h9, vc⟩ := vc
      refine hw_get X (fe_Mo_52 X) h9 dd_Mo_line_100 ?_
      refine hw_if_lt X (tgt := 113) dd_Mo_line_103 rfl (fun hc => ?_) (fun hc => ?_)
      · replace vc := vc.1 hc
        refine hw_iload_n X dd_Mo_line_113 rfl ?_
        refine hw_if_eq X (tgt := 124) dd_Mo_line_114 rfl (fun hc => ?_) (fun hc => ?_)
        · replace vc := vc.1 hc
          refine hw_aload_n X (Or.inr ⟨_, rfl⟩) dd_Mo_line_124 rfl ?_
          refine hw_iload_n X dd_Mo_line_125 rfl ?_
          obtain ⟨hob, rm9, po9, hM9, hf9, hc9, vc⟩ := vc
          refine hw_callVi X (As := [.int x1]) (ye_Mo_146 X) hM9 rfl hf9 hc9 hob (Nat.le_of_ble_eq_true rfl) rfl dd_Mo_line_126 (fun x_13 w10 hp => ?_)
          replace vc := vc x_13 w10 hp
          exact rt dd_Mo_line_129 vc
        · replace vc := vc.2 hc
          refine hw_aload_n X (Or.inr ⟨_, rfl⟩) dd_Mo_line_117 rfl ?_
          obtain ⟨hob, rm9, po9, hM9, hf9, hc9, vc⟩ := vc
          refine hw_callVi X (As := []) (ye_Mo_143 X) hM9 rfl hf9 hc9 hob (Nat.le_of_ble_eq_true rfl) rfl dd_Mo_line_118 (fun x_17 w14 hp => ?_)
          replace vc := vc x_17 w14 hp
          refine hw_goto X (tgt := 129) dd_Mo_line_121 rfl ?_
          exact rt dd_Mo_line_129 vc
      · replace vc := vc.2 hc
        refine hw_iconst X (v := -1) dd_Mo_line_106 (by decide) ?_
        refine hw_aload_n X (Or.inr ⟨_, rfl⟩) dd_Mo_line_107 rfl ?_
        obtain ⟨x_18, h9, vc⟩ := vc
        refine hw_get X (fe_Mo_52 X) h9 dd_Mo_line_108 ?_
        refine hw_isub X dd_Mo_line_111 ?_
        exact rt dd_Mo_line_112 vc
    · replace vc := vc.2 hc
      refine hw_aload_n X (Or.inr ⟨_, rfl⟩) dd_Mo_line_84 rfl ?_
      obtain ⟨x_19, h9, vc⟩ := vc
      refine hw_get X (fe_Mo_49 X) h9 dd_Mo_line_85 ?_
      refine hw_aload_n X (Or.inr ⟨_, rfl⟩) dd_Mo_line_88 rfl ?_
      obtain ⟨x_20, h9, vc⟩ := vc
      refine hw_get X (fe_Mo_46 X) h9 dd_Mo_line_89 ?_
      refine hw_icmp_ge X (tgt := 99) dd_Mo_line_92 rfl (fun hc => ?_) (fun hc => ?_)
      · replace vc := vc.1 hc
        refine hw_aload_n X (Or.inr ⟨_, rfl⟩) dd_Mo_line_99 rfl ?_
        obtain ⟨x_21, h9, vc⟩ := vc
        refine hw_get X (fe_Mo_52 X) h9 dd_Mo_line_100 ?_
        refine hw_if_lt X (tgt := 113) dd_Mo_line_103 rfl (fun hc => ?_) (fun hc => ?_)
        · replace vc := vc.1 hc
          refine hw_iload_n X dd_Mo_line_113 rfl ?_
          refine hw_if_eq X (tgt := 124) dd_Mo_line_114 rfl (fun hc => ?_) (fun hc => ?_)
          · replace vc := vc.1 hc
            refine hw_aload_n X (Or.inr ⟨_, rfl⟩) dd_Mo_line_124 rfl ?_
            refine hw_iload_n X dd_Mo_line_125 rfl ?_
            obtain ⟨hob, rm9, po9, hM9, hf9, hc9, vc⟩ := vc
            refine hw_callVi X (As := [.int x1]) (ye_Mo_146 X) hM9 rfl hf9 hc9 hob (Nat.le_of_ble_eq_true rfl) rfl dd_Mo_line_126 (fun x_25 w22 hp => ?_)
            replace vc := vc x_25 w22 hp
            exact rt dd_Mo_line_129 vc
          · replace vc := vc.2 hc
            refine hw_aload_n X (Or.inr ⟨_, rfl⟩) dd_Mo_line_117 rfl ?_
            obtain ⟨hob, rm9, po9, hM9, hf9, hc9, vc⟩ := vc
            refine hw_callVi X (As := []) (ye_Mo_143 X) hM9 rfl hf9 hc9 hob (Nat.le_of_ble_eq_true rfl) rfl dd_Mo_line_118 (fun x_29 w26 hp => ?_)
            replace vc := vc x_29 w26 hp
            refine hw_goto X (tgt := 129) dd_Mo_line_121 rfl ?_
            exact rt dd_Mo_line_129 vc
        · replace vc := vc.2 hc
          refine hw_iconst X (v := -1) dd_Mo_line_106 (by decide) ?_
          refine hw_aload_n X (Or.inr ⟨_, rfl⟩) dd_Mo_line_107 rfl ?_
          obtain ⟨x_30, h9, vc⟩ := vc
          refine hw_get X (fe_Mo_52 X) h9 dd_Mo_line_108 ?_
          refine hw_isub X dd_Mo_line_111 ?_
          exact rt dd_Mo_line_112 vc
      · replace vc := vc.2 hc
        refine hw_aload_n X (Or.inr ⟨_, rfl⟩) dd_Mo_line_95 rfl ?_
        obtain ⟨hob, rm9, po9, hM9, hf9, hc9, vc⟩ := vc
        refine hw_callVv X (As := []) (ye_Mo_65 X) hM9 rfl hf9 hc9 hob (Nat.le_of_ble_eq_true rfl) rfl dd_Mo_line_96 (fun w31 hp => ?_)
        replace vc := vc w31 hp
        refine hw_aload_n X (Or.inr ⟨_, rfl⟩) dd_Mo_line_99 rfl ?_
        obtain ⟨x_34, h9, vc⟩ := vc
        refine hw_get X (fe_Mo_52 X) h9 dd_Mo_line_100 ?_
        refine hw_if_lt X (tgt := 113) dd_Mo_line_103 rfl (fun hc => ?_) (fun hc => ?_)
        · replace vc := vc.1 hc
          refine hw_iload_n X dd_Mo_line_113 rfl ?_
          refine hw_if_eq X (tgt := 124) dd_Mo_line_114 rfl (fun hc => ?_) (fun hc => ?_)
          · replace vc := vc.1 hc
            refine hw_aload_n X (Or.inr ⟨_, rfl⟩) dd_Mo_line_124 rfl ?_
            refine hw_iload_n X dd_Mo_line_125 rfl ?_
            obtain ⟨hob, rm9, po9, hM9, hf9, hc9, vc⟩ := vc
            refine hw_callVi X (As := [.int x1]) (ye_Mo_146 X) hM9 rfl hf9 hc9 hob (Nat.le_of_ble_eq_true rfl) rfl dd_Mo_line_126 (fun x_38 w35 hp => ?_)
            replace vc := vc x_38 w35 hp
            exact rt dd_Mo_line_129 vc
          · replace vc := vc.2 hc
            refine hw_aload_n X (Or.inr ⟨_, rfl⟩) dd_Mo_line_117 rfl ?_
            obtain ⟨hob, rm9, po9, hM9, hf9, hc9, vc⟩ := vc
            refine hw_callVi X (As := []) (ye_Mo_143 X) hM9 rfl hf9 hc9 hob (Nat.le_of_ble_eq_true rfl) rfl dd_Mo_line_118 (fun x_42 w39 hp => ?_)
            replace vc := vc x_42 w39 hp
            refine hw_goto X (tgt := 129) dd_Mo_line_121 rfl ?_
            exact rt dd_Mo_line_129 vc
        · replace vc := vc.2 hc
          refine hw_iconst X (v := -1) dd_Mo_line_106 (by decide) ?_
          refine hw_aload_n X (Or.inr ⟨_, rfl⟩) dd_Mo_line_107 rfl ?_
          obtain ⟨x_43, h9, vc⟩ := vc
          refine hw_get X (fe_Mo_52 X) h9 dd_Mo_line_108 ?_
          refine hw_isub X dd_Mo_line_111 ?_
          exact rt dd_Mo_line_112 vc
  · replace vc := vc.2 hc
    refine hw_aload_n X (Or.inr ⟨_, rfl⟩) dd_Mo_line_42 rfl ?_
    refine hw_aload_n X (Or.inr ⟨_, rfl⟩) dd_Mo_line_43 rfl ?_
    obtain ⟨x_44, h9, vc⟩ := vc
    refine hw_get X (fe_Mo_49 X) h9 dd_Mo_line_44 ?_
    refine hw_iconst X (v := 1) dd_Mo_line_47 (by decide) ?_
    refine hw_iadd X dd_Mo_line_48 ?_
    obtain ⟨w45, h9, vc⟩ := vc
    refine hw_put X (fp_Mo_49 X) rfl rfl h9 dd_Mo_line_49 ?_
    refine hw_aload_n X (Or.inr ⟨_, rfl⟩) dd_Mo_line_52 rfl ?_
    refine hw_iconst X (v := 0) dd_Mo_line_53 (by decide) ?_
    obtain ⟨hob, rm9, po9, hM9, hf9, hc9, vc⟩ := vc
    refine hw_callVv X (As := [.int (0 : Int32)]) (ye_Mo_139 X) hM9 rfl hf9 hc9 hob (Nat.le_of_ble_eq_true rfl) rfl dd_Mo_line_54 (fun w46 hp => ?_)
    replace vc := vc w46 hp
    refine hw_goto X (tgt := 77) dd_Mo_line_57 rfl ?_
    refine hw_aload_n X (Or.inr ⟨_, rfl⟩) dd_Mo_line_77 rfl ?_
    obtain ⟨x_49, h9, vc⟩ := vc
    refine hw_get X (fe_Mo_52 X) h9 dd_Mo_line_78 ?_
    refine hw_if_ge X (tgt := 99) dd_Mo_line_81 rfl (fun hc => ?_) (fun hc => ?_)
    · replace vc := vc.1 hc
      refine hw_aload_n X (Or.inr ⟨_, rfl⟩) dd_Mo_line_99 rfl ?_
      obtain ⟨x_50, h9, vc⟩ := vc
      refine hw_get X (fe_Mo_52 X) h9 dd_Mo_line_100 ?_
      refine hw_if_lt X (tgt := 113) dd_Mo_line_103 rfl (fun hc => ?_) (fun hc => ?_)
      · replace vc := vc.1 hc
        refine hw_iload_n X dd_Mo_line_113 rfl ?_
        refine hw_if_eq X (tgt := 124) dd_Mo_line_114 rfl (fun hc => ?_) (fun hc => ?_)
        · replace vc := vc.1 hc
          refine hw_aload_n X (Or.inr ⟨_, rfl⟩) dd_Mo_line_124 rfl ?_
          refine hw_iload_n X dd_Mo_line_125 rfl ?_
          obtain ⟨hob, rm9, po9, hM9, hf9, hc9, vc⟩ := vc
          refine hw_callVi X (As := [.int x1]) (ye_Mo_146 X) hM9 rfl hf9 hc9 hob (Nat.le_of_ble_eq_true rfl) rfl dd_Mo_line_126 (fun x_54 w51 hp => ?_)
          replace vc := vc x_54 w51 hp
          exact rt dd_Mo_line_129 vc
        · replace vc := vc.2 hc
          refine hw_aload_n X (Or.inr ⟨_, rfl⟩) dd_Mo_line_117 rfl ?_
          obtain ⟨hob, rm9, po9, hM9, hf9, hc9, vc⟩ := vc
          refine hw_callVi X (As := []) (ye_Mo_143 X) hM9 rfl hf9 hc9 hob (Nat.le_of_ble_eq_true rfl) rfl dd_Mo_line_118 (fun x_58 w55 hp => ?_)
          replace vc := vc x_58 w55 hp
          refine hw_goto X (tgt := 129) dd_Mo_line_121 rfl ?_
          exact rt dd_Mo_line_129 vc
      · replace vc := vc.2 hc
        refine hw_iconst X (v := -1) dd_Mo_line_106 (by decide) ?_
        refine hw_aload_n X (Or.inr ⟨_, rfl⟩) dd_Mo_line_107 rfl ?_
        obtain ⟨x_59, h9, vc⟩ := vc
        refine hw_get X (fe_Mo_52 X) h9 dd_Mo_line_108 ?_
        refine hw_isub X dd_Mo_line_111 ?_
        exact rt dd_Mo_line_112 vc
    · replace vc := vc.2 hc
      refine hw_aload_n X (Or.inr ⟨_, rfl⟩) dd_Mo_line_84 rfl ?_
      obtain ⟨x_60, h9, vc⟩ := vc
      refine hw_get X (fe_Mo_49 X) h9 dd_Mo_line_85 ?_
      refine hw_aload_n X (Or.inr ⟨_, rfl⟩) dd_Mo_line_88 rfl ?_
      obtain ⟨x_61, h9, vc⟩ := vc
      refine hw_get X (fe_Mo_46 X) h9 dd_Mo_line_89 ?_
      refine hw_icmp_ge X (tgt := 99) dd_Mo_line_92 rfl (fun hc => ?_) (fun hc => ?_)
      · replace vc := vc.1 hc
        refine hw_aload_n X (Or.inr ⟨_, rfl⟩) dd_Mo_line_99 rfl ?_
        obtain ⟨x_62, h9, vc⟩ := vc
        refine hw_get X (fe_Mo_52 X) h9 dd_Mo_line_100 ?_
        refine hw_if_lt X (tgt := 113) dd_Mo_line_103 rfl (fun hc => ?_) (fun hc => ?_)
        · replace vc := vc.1 hc
          refine hw_iload_n X dd_Mo_line_113 rfl ?_
          refine hw_if_eq X (tgt := 124) dd_Mo_line_114 rfl (fun hc => ?_) (fun hc => ?_)
          · replace vc := vc.1 hc
            refine hw_aload_n X (Or.inr ⟨_, rfl⟩) dd_Mo_line_124 rfl ?_
            refine hw_iload_n X dd_Mo_line_125 rfl ?_
            obtain ⟨hob, rm9, po9, hM9, hf9, hc9, vc⟩ := vc
            refine hw_callVi X (As := [.int x1]) (ye_Mo_146 X) hM9 rfl hf9 hc9 hob (Nat.le_of_ble_eq_true rfl) rfl dd_Mo_line_126 (fun x_66 w63 hp => ?_)
            replace vc := vc x_66 w63 hp
            exact rt dd_Mo_line_129 vc
          · replace vc := vc.2 hc
            refine hw_aload_n X (Or.inr ⟨_, rfl⟩) dd_Mo_line_117 rfl ?_
            obtain ⟨hob, rm9, po9, hM9, hf9, hc9, vc⟩ := vc
            refine hw_callVi X (As := []) (ye_Mo_143 X) hM9 rfl hf9 hc9 hob (Nat.le_of_ble_eq_true rfl) rfl dd_Mo_line_118 (fun x_70 w67 hp => ?_)
            replace vc := vc x_70 w67 hp
            refine hw_goto X (tgt := 129) dd_Mo_line_121 rfl ?_
            exact rt dd_Mo_line_129 vc
        · replace vc := vc.2 hc
          refine hw_iconst X (v := -1) dd_Mo_line_106 (by decide) ?_
          refine hw_aload_n X (Or.inr ⟨_, rfl⟩) dd_Mo_line_107 rfl ?_
          obtain ⟨x_71, h9, vc⟩ := vc
          refine hw_get X (fe_Mo_52 X) h9 dd_Mo_line_108 ?_
          refine hw_isub X dd_Mo_line_111 ?_
          exact rt dd_Mo_line_112 vc
      · replace vc := vc.2 hc
        refine hw_aload_n X (Or.inr ⟨_, rfl⟩) dd_Mo_line_95 rfl ?_
        obtain ⟨hob, rm9, po9, hM9, hf9, hc9, vc⟩ := vc
        refine hw_callVv X (As := []) (ye_Mo_65 X) hM9 rfl hf9 hc9 hob (Nat.le_of_ble_eq_true rfl) rfl dd_Mo_line_96 (fun w72 hp => ?_)
        replace vc := vc w72 hp
        refine hw_aload_n X (Or.inr ⟨_, rfl⟩) dd_Mo_line_99 rfl ?_
        obtain ⟨x_75, h9, vc⟩ := vc
        refine hw_get X (fe_Mo_52 X) h9 dd_Mo_line_100 ?_
        refine hw_if_lt X (tgt := 113) dd_Mo_line_103 rfl (fun hc => ?_) (fun hc => ?_)
        · replace vc := vc.1 hc
          refine hw_iload_n X dd_Mo_line_113 rfl ?_
          refine hw_if_eq X (tgt := 124) dd_Mo_line_114 rfl (fun hc => ?_) (fun hc => ?_)
          · replace vc := vc.1 hc
            refine hw_aload_n X (Or.inr ⟨_, rfl⟩) dd_Mo_line_124 rfl ?_
            refine hw_iload_n X dd_Mo_line_125 rfl ?_
            obtain ⟨hob, rm9, po9, hM9, hf9, hc9, vc⟩ := vc
            refine hw_callVi X (As := [.int x1]) (ye_Mo_146 X) hM9 rfl hf9 hc9 hob (Nat.le_of_ble_eq_true rfl) rfl dd_Mo_line_126 (fun x_79 w76 hp => ?_)
            replace vc := vc x_79 w76 hp
            exact rt dd_Mo_line_129 vc
          · replace vc := vc.2 hc
            refine hw_aload_n X (Or.inr ⟨_, rfl⟩) dd_Mo_line_117 rfl ?_
            obtain ⟨hob, rm9, po9, hM9, hf9, hc9, vc⟩ := vc
            refine hw_callVi X (As := []) (ye_Mo_143 X) hM9 rfl hf9 hc9 hob (Nat.le_of_ble_eq_true rfl) rfl dd_Mo_line_118 (fun x_83 w80 hp => ?_)
            replace vc := vc x_83 w80 hp
            refine hw_goto X (tgt := 129) dd_Mo_line_121 rfl ?_
            exact rt dd_Mo_line_129 vc
        · replace vc := vc.2 hc
          refine hw_iconst X (v := -1) dd_Mo_line_106 (by decide) ?_
          refine hw_aload_n X (Or.inr ⟨_, rfl⟩) dd_Mo_line_107 rfl ?_
          obtain ⟨x_84, h9, vc⟩ := vc
          refine hw_get X (fe_Mo_52 X) h9 dd_Mo_line_108 ?_
          refine hw_isub X dd_Mo_line_111 ?_
          exact rt dd_Mo_line_112 vc
end
section
variable {p : Program} {l : Launch} {e : Env} {R : Room} {s : State} {m : MethodId} {args : Array Value} {below : List Frame} {meth : Method} {c : Code} {Q : State → Prop} {g : hw_G} {A : Nat → Prop} {k n : Nat} {w : hw_H}
def vc_Mo_delete_0 (l : Launch) (g : hw_G) (R : Room) (K : Nat → Nat → Nat → List (Option Value) → List Value → hw_H → Prop) (PR : Nat → Nat → Int32 → hw_H → Prop) (k n : Nat) (a0 : Nat) (w : hw_H) : Prop := K k n 2 [some (.ref a0), some (.int (0 : Int32)), none, none] [] w
set_option maxHeartbeats 4000000 in
set_option maxRecDepth 100000 in
theorem sg_Mo_delete_0 (X : hw_X p m c cb_Mo_delete 4 s args (mw_Mo_delete) "ProofCourtModel" g A) {K : Nat → Nat → Nat → List (Option Value) → List Value → hw_H → Prop} {PR : Nat → Nat → Int32 → hw_H → Prop} (hK : ∀ (k n pc : Nat) (lv : List (Option Value)) (st : List Value) (w : hw_H), K k n pc lv st w → hw_J p l e R s m args below meth c Q 4 g A k n pc lv st w) (rt : ∀ {k n pc : Nat} {lv : List (Option Value)} {x : Int32} {w : hw_H}, decode cb_Mo_delete pc = .ok (.ireturn, 1) → PR k n x w → hw_J p l e R s m args below meth c Q 4 g A k n pc lv [.int x] w) {a0 : Nat} (vc : vc_Mo_delete_0 l g R K PR k n a0 w) : hw_J p l e R s m args below meth c Q 4 g A k n 0 [some (.ref a0), none, none, none] [] w := by
  unfold vc_Mo_delete_0 at vc
  refine hw_iconst X (v := 0) dd_Mo_delete_0 (by decide) ?_
  refine hw_istore_n X dd_Mo_delete_1 (by decide) rfl ?_
  exact hK _ _ _ _ _ _ vc
def vc_Mo_delete_2 (l : Launch) (g : hw_G) (R : Room) (K : Nat → Nat → Nat → List (Option Value) → List Value → hw_H → Prop) (PR : Nat → Nat → Int32 → hw_H → Prop) (k n : Nat) (a0 : Nat) (x1 : Int32) (w : hw_H) : Prop := ∃ x_1 : Int32, hw_g w a0 8 16 (.int x_1) ∧ (((x_1 ≤ x1) → (K k n 83 [some (.ref a0), some (.int (0 : Int32)), none, none] [] w)) ∧ ((¬ x_1 ≤ x1) → (∃ b_2 : Nat, hw_g w a0 8 17 (.ref b_2) ∧ (∃ x_3 : Int32, hw_ai g 0 w b_2 x1 x_3 ∧ (hw_o w a0 "ProofCourtModel" ∧ hw_ci l g R k n ym_Mo_find (mw_Mo_find) 4 [.ref a0, .int x_3] w (fun (k5 n6 : Nat) (x_7 : Int32) (w4 : hw_H) => ((0 ≤ x_7) → (K k5 n6 31 [some (.ref a0), some (.int x1), some (.int (0 : Int32)), some (.int (0 : Int32))] [] w4)) ∧ ((¬ 0 ≤ x_7) → (K k5 n6 31 [some (.ref a0), some (.int x1), some (.int (1 : Int32)), some (.int (0 : Int32))] [] w4))))))))
set_option maxHeartbeats 4000000 in
set_option maxRecDepth 100000 in
theorem sg_Mo_delete_2 (X : hw_X p m c cb_Mo_delete 4 s args (mw_Mo_delete) "ProofCourtModel" g A) {K : Nat → Nat → Nat → List (Option Value) → List Value → hw_H → Prop} {PR : Nat → Nat → Int32 → hw_H → Prop} (hK : ∀ (k n pc : Nat) (lv : List (Option Value)) (st : List Value) (w : hw_H), K k n pc lv st w → hw_J p l e R s m args below meth c Q 4 g A k n pc lv st w) (rt : ∀ {k n pc : Nat} {lv : List (Option Value)} {x : Int32} {w : hw_H}, decode cb_Mo_delete pc = .ok (.ireturn, 1) → PR k n x w → hw_J p l e R s m args below meth c Q 4 g A k n pc lv [.int x] w) {a0 : Nat} {x1 : Int32} (vc : vc_Mo_delete_2 l g R K PR k n a0 x1 w) : hw_J p l e R s m args below meth c Q 4 g A k n 2 [some (.ref a0), some (.int x1), none, none] [] w := by
  unfold vc_Mo_delete_2 at vc
  refine hw_iload_n X dd_Mo_delete_2 rfl ?_
  refine hw_aload_n X (Or.inr ⟨_, rfl⟩) dd_Mo_delete_3 rfl ?_
  obtain ⟨x_1, h9, vc⟩ := vc
  refine hw_get X (fe_Mo_136 X) h9 dd_Mo_delete_4 ?_
  refine hw_icmp_ge X (tgt := 81) dd_Mo_delete_7 rfl (fun hc => ?_) (fun hc => ?_)
  · replace vc := vc.1 hc
    refine hw_iconst X (v := 0) dd_Mo_delete_81 (by decide) ?_
    refine hw_istore_n X dd_Mo_delete_82 (by decide) rfl ?_
    exact hK _ _ _ _ _ _ vc
  · replace vc := vc.2 hc
    refine hw_aload_n X (Or.inr ⟨_, rfl⟩) dd_Mo_delete_10 rfl ?_
    refine hw_aload_n X (Or.inr ⟨_, rfl⟩) dd_Mo_delete_11 rfl ?_
    obtain ⟨b_2, h9, vc⟩ := vc
    refine hw_get X (fe_Mo_28 X) h9 dd_Mo_delete_12 ?_
    refine hw_iload_n X dd_Mo_delete_15 rfl ?_
    obtain ⟨x_3, h9, vc⟩ := vc
    refine hw_iald X h9 dd_Mo_delete_16 ?_
    obtain ⟨hob, rm9, po9, hM9, hf9, hc9, vc⟩ := vc
    refine hw_callVi X (As := [.int x_3]) (ye_Mo_117 X) hM9 rfl hf9 hc9 hob (Nat.le_of_ble_eq_true rfl) rfl dd_Mo_delete_17 (fun x_7 w4 hp => ?_)
    replace vc := vc x_7 w4 hp
    refine hw_if_ge X (tgt := 27) dd_Mo_delete_20 rfl (fun hc => ?_) (fun hc => ?_)
    · replace vc := vc.1 hc
      refine hw_iconst X (v := 0) dd_Mo_delete_27 (by decide) ?_
      refine hw_istore_n X dd_Mo_delete_28 (by decide) rfl ?_
      refine hw_iconst X (v := 0) dd_Mo_delete_29 (by decide) ?_
      refine hw_istore_n X dd_Mo_delete_30 (by decide) rfl ?_
      exact hK _ _ _ _ _ _ vc
    · replace vc := vc.2 hc
      refine hw_iconst X (v := 1) dd_Mo_delete_23 (by decide) ?_
      refine hw_goto X (tgt := 28) dd_Mo_delete_24 rfl ?_
      refine hw_istore_n X dd_Mo_delete_28 (by decide) rfl ?_
      refine hw_iconst X (v := 0) dd_Mo_delete_29 (by decide) ?_
      refine hw_istore_n X dd_Mo_delete_30 (by decide) rfl ?_
      exact hK _ _ _ _ _ _ vc
def vc_Mo_delete_31 (l : Launch) (g : hw_G) (R : Room) (K : Nat → Nat → Nat → List (Option Value) → List Value → hw_H → Prop) (PR : Nat → Nat → Int32 → hw_H → Prop) (k n : Nat) (a0 : Nat) (x1 : Int32) (x2 : Int32) (x3 : Int32) (w : hw_H) : Prop := ((x1 ≤ x3) → (((x2 = 0) → (K k n 2 [some (.ref a0), some (.int (x1 + 1)), none, none] [] w)) ∧ ((¬ x2 = 0) → (PR k n (-2000 : Int32) w)))) ∧ ((¬ x1 ≤ x3) → (((¬ x2 = 0) → (K k n 31 [some (.ref a0), some (.int x1), some (.int (1 : Int32)), some (.int (x3 + 1))] [] w)) ∧ ((x2 = 0) → (∃ b_1 : Nat, hw_g w a0 8 17 (.ref b_1) ∧ (∃ x_2 : Int32, hw_ai g 0 w b_1 x3 x_2 ∧ (∃ b_3 : Nat, hw_g w a0 8 17 (.ref b_3) ∧ (∃ x_4 : Int32, hw_ai g 0 w b_3 x1 x_4 ∧ (((¬ x_2 = x_4) → (K k n 31 [some (.ref a0), some (.int x1), some (.int (0 : Int32)), some (.int (x3 + 1))] [] w)) ∧ ((x_2 = x_4) → (K k n 31 [some (.ref a0), some (.int x1), some (.int (1 : Int32)), some (.int (x3 + 1))] [] w))))))))))
set_option maxHeartbeats 4000000 in
set_option maxRecDepth 100000 in
theorem sg_Mo_delete_31 (X : hw_X p m c cb_Mo_delete 4 s args (mw_Mo_delete) "ProofCourtModel" g A) {K : Nat → Nat → Nat → List (Option Value) → List Value → hw_H → Prop} {PR : Nat → Nat → Int32 → hw_H → Prop} (hK : ∀ (k n pc : Nat) (lv : List (Option Value)) (st : List Value) (w : hw_H), K k n pc lv st w → hw_J p l e R s m args below meth c Q 4 g A k n pc lv st w) (rt : ∀ {k n pc : Nat} {lv : List (Option Value)} {x : Int32} {w : hw_H}, decode cb_Mo_delete pc = .ok (.ireturn, 1) → PR k n x w → hw_J p l e R s m args below meth c Q 4 g A k n pc lv [.int x] w) {a0 : Nat} {x1 : Int32} {x2 : Int32} {x3 : Int32} (vc : vc_Mo_delete_31 l g R K PR k n a0 x1 x2 x3 w) : hw_J p l e R s m args below meth c Q 4 g A k n 31 [some (.ref a0), some (.int x1), some (.int x2), some (.int x3)] [] w := by
  unfold vc_Mo_delete_31 at vc
  refine hw_iload_n X dd_Mo_delete_31 rfl ?_
  refine hw_iload_n X dd_Mo_delete_32 rfl ?_
  refine hw_icmp_ge X (tgt := 67) dd_Mo_delete_33 rfl (fun hc => ?_) (fun hc => ?_)
  · replace vc := vc.1 hc
    refine hw_iload_n X dd_Mo_delete_67 rfl ?_
    refine hw_if_eq X (tgt := 75) dd_Mo_delete_68 rfl (fun hc => ?_) (fun hc => ?_)
    · replace vc := vc.1 hc
      refine hw_iinc X (v := (x1 + 1)) dd_Mo_delete_75 rfl rfl (by decide) rfl ?_
      refine hw_goto X (tgt := 2) dd_Mo_delete_78 rfl ?_
      exact hw_drop (lv9 := [some (.ref a0), some (.int (x1 + 1)), none, none]) (⟨rfl, ⟨rfl, ⟨trivial, ⟨trivial, trivial⟩⟩⟩⟩) (hK _ _ _ _ _ _ vc)
    · replace vc := vc.2 hc
      refine hw_sipush X (v := -2000) dd_Mo_delete_71 (by decide) ?_
      exact rt dd_Mo_delete_74 vc
  · replace vc := vc.2 hc
    refine hw_iload_n X dd_Mo_delete_36 rfl ?_
    refine hw_if_ne X (tgt := 55) dd_Mo_delete_37 rfl (fun hc => ?_) (fun hc => ?_)
    · replace vc := vc.1 hc
      refine hw_iconst X (v := 1) dd_Mo_delete_55 (by decide) ?_
      refine hw_goto X (tgt := 60) dd_Mo_delete_56 rfl ?_
      refine hw_istore_n X dd_Mo_delete_60 (by decide) rfl ?_
      refine hw_iinc X (v := (x3 + 1)) dd_Mo_delete_61 rfl rfl (by decide) rfl ?_
      refine hw_goto X (tgt := 31) dd_Mo_delete_64 rfl ?_
      exact hK _ _ _ _ _ _ vc
    · replace vc := vc.2 hc
      refine hw_aload_n X (Or.inr ⟨_, rfl⟩) dd_Mo_delete_40 rfl ?_
      obtain ⟨b_1, h9, vc⟩ := vc
      refine hw_get X (fe_Mo_28 X) h9 dd_Mo_delete_41 ?_
      refine hw_iload_n X dd_Mo_delete_44 rfl ?_
      obtain ⟨x_2, h9, vc⟩ := vc
      refine hw_iald X h9 dd_Mo_delete_45 ?_
      refine hw_aload_n X (Or.inr ⟨_, rfl⟩) dd_Mo_delete_46 rfl ?_
      obtain ⟨b_3, h9, vc⟩ := vc
      refine hw_get X (fe_Mo_28 X) h9 dd_Mo_delete_47 ?_
      refine hw_iload_n X dd_Mo_delete_50 rfl ?_
      obtain ⟨x_4, h9, vc⟩ := vc
      refine hw_iald X h9 dd_Mo_delete_51 ?_
      refine hw_icmp_ne X (tgt := 59) dd_Mo_delete_52 rfl (fun hc => ?_) (fun hc => ?_)
      · replace vc := vc.1 hc
        refine hw_iconst X (v := 0) dd_Mo_delete_59 (by decide) ?_
        refine hw_istore_n X dd_Mo_delete_60 (by decide) rfl ?_
        refine hw_iinc X (v := (x3 + 1)) dd_Mo_delete_61 rfl rfl (by decide) rfl ?_
        refine hw_goto X (tgt := 31) dd_Mo_delete_64 rfl ?_
        exact hK _ _ _ _ _ _ vc
      · replace vc := vc.2 hc
        refine hw_iconst X (v := 1) dd_Mo_delete_55 (by decide) ?_
        refine hw_goto X (tgt := 60) dd_Mo_delete_56 rfl ?_
        refine hw_istore_n X dd_Mo_delete_60 (by decide) rfl ?_
        refine hw_iinc X (v := (x3 + 1)) dd_Mo_delete_61 rfl rfl (by decide) rfl ?_
        refine hw_goto X (tgt := 31) dd_Mo_delete_64 rfl ?_
        exact hK _ _ _ _ _ _ vc
def vc_Mo_delete_83 (l : Launch) (g : hw_G) (R : Room) (K : Nat → Nat → Nat → List (Option Value) → List Value → hw_H → Prop) (PR : Nat → Nat → Int32 → hw_H → Prop) (k n : Nat) (a0 : Nat) (x1 : Int32) (w : hw_H) : Prop := ∃ x_1 : Int32, hw_g w a0 8 16 (.int x_1) ∧ (((x_1 ≤ x1) → (PR k n (1 : Int32) w)) ∧ ((¬ x_1 ≤ x1) → (∃ b_2 : Nat, hw_g w a0 8 17 (.ref b_2) ∧ (∃ x_3 : Int32, hw_ai g 0 w b_2 x1 x_3 ∧ (hw_o w a0 "ProofCourtModel" ∧ hw_ci l g R k n ym_Mo_find (mw_Mo_find) 4 [.ref a0, .int x_3] w (fun (k5 n6 : Nat) (x_7 : Int32) (w4 : hw_H) => ∃ x_8 : Int32, hw_g w4 a0 8 13 (.int x_8) ∧ (∃ w9 : hw_H, hw_p w4 a0 8 13 (.int (x_8 - (1 : Int32))) w9 ∧ (K k5 n6 114 [some (.ref a0), some (.int x1), some (.int x_7), some (.int x_7)] [] w9))))))))
set_option maxHeartbeats 4000000 in
set_option maxRecDepth 100000 in
theorem sg_Mo_delete_83 (X : hw_X p m c cb_Mo_delete 4 s args (mw_Mo_delete) "ProofCourtModel" g A) {K : Nat → Nat → Nat → List (Option Value) → List Value → hw_H → Prop} {PR : Nat → Nat → Int32 → hw_H → Prop} (hK : ∀ (k n pc : Nat) (lv : List (Option Value)) (st : List Value) (w : hw_H), K k n pc lv st w → hw_J p l e R s m args below meth c Q 4 g A k n pc lv st w) (rt : ∀ {k n pc : Nat} {lv : List (Option Value)} {x : Int32} {w : hw_H}, decode cb_Mo_delete pc = .ok (.ireturn, 1) → PR k n x w → hw_J p l e R s m args below meth c Q 4 g A k n pc lv [.int x] w) {a0 : Nat} {x1 : Int32} (vc : vc_Mo_delete_83 l g R K PR k n a0 x1 w) : hw_J p l e R s m args below meth c Q 4 g A k n 83 [some (.ref a0), some (.int x1), none, none] [] w := by
  unfold vc_Mo_delete_83 at vc
  refine hw_iload_n X dd_Mo_delete_83 rfl ?_
  refine hw_aload_n X (Or.inr ⟨_, rfl⟩) dd_Mo_delete_84 rfl ?_
  obtain ⟨x_1, h9, vc⟩ := vc
  refine hw_get X (fe_Mo_136 X) h9 dd_Mo_delete_85 ?_
  refine hw_icmp_ge X (tgt := 162) dd_Mo_delete_88 rfl (fun hc => ?_) (fun hc => ?_)
  · replace vc := vc.1 hc
    refine hw_iconst X (v := 1) dd_Mo_delete_162 (by decide) ?_
    exact rt dd_Mo_delete_163 vc
  · replace vc := vc.2 hc
    refine hw_aload_n X (Or.inr ⟨_, rfl⟩) dd_Mo_delete_91 rfl ?_
    refine hw_aload_n X (Or.inr ⟨_, rfl⟩) dd_Mo_delete_92 rfl ?_
    obtain ⟨b_2, h9, vc⟩ := vc
    refine hw_get X (fe_Mo_28 X) h9 dd_Mo_delete_93 ?_
    refine hw_iload_n X dd_Mo_delete_96 rfl ?_
    obtain ⟨x_3, h9, vc⟩ := vc
    refine hw_iald X h9 dd_Mo_delete_97 ?_
    obtain ⟨hob, rm9, po9, hM9, hf9, hc9, vc⟩ := vc
    refine hw_callVi X (As := [.int x_3]) (ye_Mo_117 X) hM9 rfl hf9 hc9 hob (Nat.le_of_ble_eq_true rfl) rfl dd_Mo_delete_98 (fun x_7 w4 hp => ?_)
    replace vc := vc x_7 w4 hp
    refine hw_istore_n X dd_Mo_delete_101 (by decide) rfl ?_
    refine hw_aload_n X (Or.inr ⟨_, rfl⟩) dd_Mo_delete_102 rfl ?_
    refine hw_aload_n X (Or.inr ⟨_, rfl⟩) dd_Mo_delete_103 rfl ?_
    obtain ⟨x_8, h9, vc⟩ := vc
    refine hw_get X (fe_Mo_104 X) h9 dd_Mo_delete_104 ?_
    refine hw_iconst X (v := 1) dd_Mo_delete_107 (by decide) ?_
    refine hw_isub X dd_Mo_delete_108 ?_
    obtain ⟨w9, h9, vc⟩ := vc
    refine hw_put X (fp_Mo_104 X) rfl rfl h9 dd_Mo_delete_109 ?_
    refine hw_iload_n X dd_Mo_delete_112 rfl ?_
    refine hw_istore_n X dd_Mo_delete_113 (by decide) rfl ?_
    exact hK _ _ _ _ _ _ vc
def vc_Mo_delete_114 (l : Launch) (g : hw_G) (R : Room) (K : Nat → Nat → Nat → List (Option Value) → List Value → hw_H → Prop) (PR : Nat → Nat → Int32 → hw_H → Prop) (k n : Nat) (a0 : Nat) (x1 : Int32) (x2 : Int32) (x3 : Int32) (w : hw_H) : Prop := ∃ x_1 : Int32, hw_g w a0 8 13 (.int x_1) ∧ (((x_1 ≤ x3) → (K k n 83 [some (.ref a0), some (.int (x1 + 1)), none, none] [] w)) ∧ ((¬ x_1 ≤ x3) → (∃ b_2 : Nat, hw_g w a0 8 11 (.ref b_2) ∧ (∃ b_3 : Nat, hw_g w a0 8 11 (.ref b_3) ∧ (∃ x_4 : Int32, hw_ai g 0 w b_3 (x3 + (1 : Int32)) x_4 ∧ (∃ w5 : hw_H, hw_as g 0 w b_2 x3 x_4 w5 ∧ (hw_o w5 a0 "ProofCourtModel" ∧ hw_cv l g R k n ym_Mo_copy (mw_Mo_copy) 4 [.ref a0, .int (((24 : Int32) + x3) + (1 : Int32)), .int ((24 : Int32) + x3)] w5 (fun (k7 n8 : Nat) (w6 : hw_H) => K k7 n8 114 [some (.ref a0), some (.int x1), some (.int x2), some (.int (x3 + 1))] [] w6))))))))
set_option maxHeartbeats 4000000 in
set_option maxRecDepth 100000 in
theorem sg_Mo_delete_114 (X : hw_X p m c cb_Mo_delete 4 s args (mw_Mo_delete) "ProofCourtModel" g A) {K : Nat → Nat → Nat → List (Option Value) → List Value → hw_H → Prop} {PR : Nat → Nat → Int32 → hw_H → Prop} (hK : ∀ (k n pc : Nat) (lv : List (Option Value)) (st : List Value) (w : hw_H), K k n pc lv st w → hw_J p l e R s m args below meth c Q 4 g A k n pc lv st w) (rt : ∀ {k n pc : Nat} {lv : List (Option Value)} {x : Int32} {w : hw_H}, decode cb_Mo_delete pc = .ok (.ireturn, 1) → PR k n x w → hw_J p l e R s m args below meth c Q 4 g A k n pc lv [.int x] w) {a0 : Nat} {x1 : Int32} {x2 : Int32} {x3 : Int32} (vc : vc_Mo_delete_114 l g R K PR k n a0 x1 x2 x3 w) : hw_J p l e R s m args below meth c Q 4 g A k n 114 [some (.ref a0), some (.int x1), some (.int x2), some (.int x3)] [] w := by
  unfold vc_Mo_delete_114 at vc
  refine hw_iload_n X dd_Mo_delete_114 rfl ?_
  refine hw_aload_n X (Or.inr ⟨_, rfl⟩) dd_Mo_delete_115 rfl ?_
  obtain ⟨x_1, h9, vc⟩ := vc
  refine hw_get X (fe_Mo_104 X) h9 dd_Mo_delete_116 ?_
  refine hw_icmp_ge X (tgt := 156) dd_Mo_delete_119 rfl (fun hc => ?_) (fun hc => ?_)
  · replace vc := vc.1 hc
    refine hw_iinc X (v := (x1 + 1)) dd_Mo_delete_156 rfl rfl (by decide) rfl ?_
    refine hw_goto X (tgt := 83) dd_Mo_delete_159 rfl ?_
    exact hw_drop (lv9 := [some (.ref a0), some (.int (x1 + 1)), none, none]) (⟨rfl, ⟨rfl, ⟨trivial, ⟨trivial, trivial⟩⟩⟩⟩) (hK _ _ _ _ _ _ vc)
  · replace vc := vc.2 hc
    refine hw_aload_n X (Or.inr ⟨_, rfl⟩) dd_Mo_delete_122 rfl ?_
    obtain ⟨b_2, h9, vc⟩ := vc
    refine hw_get X (fe_Mo_25 X) h9 dd_Mo_delete_123 ?_
    refine hw_iload_n X dd_Mo_delete_126 rfl ?_
    refine hw_aload_n X (Or.inr ⟨_, rfl⟩) dd_Mo_delete_127 rfl ?_
    obtain ⟨b_3, h9, vc⟩ := vc
    refine hw_get X (fe_Mo_25 X) h9 dd_Mo_delete_128 ?_
    refine hw_iload_n X dd_Mo_delete_131 rfl ?_
    refine hw_iconst X (v := 1) dd_Mo_delete_132 (by decide) ?_
    refine hw_iadd X dd_Mo_delete_133 ?_
    obtain ⟨x_4, h9, vc⟩ := vc
    refine hw_iald X h9 dd_Mo_delete_134 ?_
    obtain ⟨w5, h9, vc⟩ := vc
    refine hw_iast X h9 dd_Mo_delete_135 ?_
    refine hw_aload_n X (Or.inr ⟨_, rfl⟩) dd_Mo_delete_136 rfl ?_
    refine hw_bipush X (v := 24) dd_Mo_delete_137 (by decide) ?_
    refine hw_iload_n X dd_Mo_delete_139 rfl ?_
    refine hw_iadd X dd_Mo_delete_140 ?_
    refine hw_iconst X (v := 1) dd_Mo_delete_141 (by decide) ?_
    refine hw_iadd X dd_Mo_delete_142 ?_
    refine hw_bipush X (v := 24) dd_Mo_delete_143 (by decide) ?_
    refine hw_iload_n X dd_Mo_delete_145 rfl ?_
    refine hw_iadd X dd_Mo_delete_146 ?_
    obtain ⟨hob, rm9, po9, hM9, hf9, hc9, vc⟩ := vc
    refine hw_callVv X (As := [.int (((24 : Int32) + x3) + (1 : Int32)), .int ((24 : Int32) + x3)]) (ye_Mo_114 X) hM9 rfl hf9 hc9 hob (Nat.le_of_ble_eq_true rfl) rfl dd_Mo_delete_147 (fun w6 hp => ?_)
    replace vc := vc w6 hp
    refine hw_iinc X (v := (x3 + 1)) dd_Mo_delete_150 rfl rfl (by decide) rfl ?_
    refine hw_goto X (tgt := 114) dd_Mo_delete_153 rfl ?_
    exact hK _ _ _ _ _ _ vc
end
section
variable {p : Program} {l : Launch} {e : Env} {R : Room} {s : State} {m : MethodId} {args : Array Value} {below : List Frame} {meth : Method} {c : Code} {Q : State → Prop} {g : hw_G} {A : Nat → Prop} {k n : Nat} {w : hw_H}
def vc_Mo_add_0 (l : Launch) (g : hw_G) (R : Room) (K : Nat → Nat → Nat → List (Option Value) → List Value → hw_H → Prop) (PR : Nat → Nat → Int32 → hw_H → Prop) (k n : Nat) (a0 : Nat) (x1 : Int32) (w : hw_H) : Prop := ∃ x_1 : Int32, hw_g w a0 8 14 (.int x_1) ∧ (((x1 ≤ x_1) → (PR k n (-2000 : Int32) w)) ∧ ((¬ x1 ≤ x_1) → (∃ x_2 : Int32, hw_g w a0 8 13 (.int x_2) ∧ (((x_2 < (40 : Int32)) → (hw_o w a0 "ProofCourtModel" ∧ hw_ci l g R k n ym_Mo_holds (mw_Mo_holds) 3 [.ref a0] w (fun (k4 n5 : Nat) (x_6 : Int32) (w3 : hw_H) => ((¬ x_6 = 0) → (∃ x_7 : Int32, hw_g w3 a0 8 13 (.int x_7) ∧ (hw_o w3 a0 "ProofCourtModel" ∧ hw_cv l g R k4 n5 ym_Mo_copy (mw_Mo_copy) 4 [.ref a0, .int (64 : Int32), .int ((24 : Int32) + x_7)] w3 (fun (k9 n10 : Nat) (w8 : hw_H) => ∃ b_11 : Nat, hw_g w8 a0 8 11 (.ref b_11) ∧ (∃ x_12 : Int32, hw_g w8 a0 8 13 (.int x_12) ∧ (∃ w13 : hw_H, hw_as g 0 w8 b_11 x_12 x1 w13 ∧ (∃ x_14 : Int32, hw_g w13 a0 8 13 (.int x_14) ∧ (∃ w15 : hw_H, hw_p w13 a0 8 13 (.int (x_14 + (1 : Int32))) w15 ∧ (∃ w16 : hw_H, hw_p w15 a0 8 14 (.int x1) w16 ∧ (∃ x_17 : Int32, hw_g w16 a0 8 15 (.int x_17) ∧ (((¬ x_17 = 0) → (∃ w18 : hw_H, hw_p w16 a0 8 15 (.int (1 : Int32)) w18 ∧ hw_b (1 : Int32) ∧ (PR k9 n10 (1 : Int32) w18))) ∧ ((x_17 = 0) → (∃ b_19 : Nat, hw_g w16 a0 8 9 (.ref b_19) ∧ (∃ x_20 : Int32, hw_ai g 0 w16 b_19 (64 : Int32) x_20 ∧ (((¬ x_20 = 0) → (∃ w21 : hw_H, hw_p w16 a0 8 15 (.int (0 : Int32)) w21 ∧ hw_b (0 : Int32) ∧ (PR k9 n10 (1 : Int32) w21))) ∧ ((x_20 = 0) → (∃ w22 : hw_H, hw_p w16 a0 8 15 (.int (1 : Int32)) w22 ∧ hw_b (1 : Int32) ∧ (PR k9 n10 (1 : Int32) w22)))))))))))))))))) ∧ ((x_6 = 0) → (∃ x_23 : Int32, hw_g w3 a0 8 20 (.int x_23) ∧ (PR k4 n5 ((-1000 : Int32) - x_23) w3)))))) ∧ ((¬ x_2 < (40 : Int32)) → (PR k n (-2000 : Int32) w))))))
set_option maxHeartbeats 4000000 in
set_option maxRecDepth 100000 in
theorem sg_Mo_add_0 (X : hw_X p m c cb_Mo_add 2 s args (mw_Mo_add) "ProofCourtModel" g A) {K : Nat → Nat → Nat → List (Option Value) → List Value → hw_H → Prop} {PR : Nat → Nat → Int32 → hw_H → Prop} (hK : ∀ (k n pc : Nat) (lv : List (Option Value)) (st : List Value) (w : hw_H), K k n pc lv st w → hw_J p l e R s m args below meth c Q 2 g A k n pc lv st w) (rt : ∀ {k n pc : Nat} {lv : List (Option Value)} {x : Int32} {w : hw_H}, decode cb_Mo_add pc = .ok (.ireturn, 1) → PR k n x w → hw_J p l e R s m args below meth c Q 2 g A k n pc lv [.int x] w) {a0 : Nat} {x1 : Int32} (vc : vc_Mo_add_0 l g R K PR k n a0 x1 w) : hw_J p l e R s m args below meth c Q 2 g A k n 0 [some (.ref a0), some (.int x1)] [] w := by
  unfold vc_Mo_add_0 at vc
  refine hw_iload_n X dd_Mo_add_0 rfl ?_
  refine hw_aload_n X (Or.inr ⟨_, rfl⟩) dd_Mo_add_1 rfl ?_
  obtain ⟨x_1, h9, vc⟩ := vc
  refine hw_get X (fe_Mo_107 X) h9 dd_Mo_add_2 ?_
  refine hw_icmp_le X (tgt := 17) dd_Mo_add_5 rfl (fun hc => ?_) (fun hc => ?_)
  · replace vc := vc.1 hc
    refine hw_sipush X (v := -2000) dd_Mo_add_17 (by decide) ?_
    exact rt dd_Mo_add_20 vc
  · replace vc := vc.2 hc
    refine hw_aload_n X (Or.inr ⟨_, rfl⟩) dd_Mo_add_8 rfl ?_
    obtain ⟨x_2, h9, vc⟩ := vc
    refine hw_get X (fe_Mo_104 X) h9 dd_Mo_add_9 ?_
    refine hw_bipush X (v := 40) dd_Mo_add_12 (by decide) ?_
    refine hw_icmp_lt X (tgt := 21) dd_Mo_add_14 rfl (fun hc => ?_) (fun hc => ?_)
    · replace vc := vc.1 hc
      refine hw_aload_n X (Or.inr ⟨_, rfl⟩) dd_Mo_add_21 rfl ?_
      obtain ⟨hob, rm9, po9, hM9, hf9, hc9, vc⟩ := vc
      refine hw_callVi X (As := []) (ye_Mo_149 X) hM9 rfl hf9 hc9 hob (Nat.le_of_ble_eq_true rfl) rfl dd_Mo_add_22 (fun x_6 w3 hp => ?_)
      replace vc := vc x_6 w3 hp
      refine hw_if_ne X (tgt := 37) dd_Mo_add_25 rfl (fun hc => ?_) (fun hc => ?_)
      · replace vc := vc.1 hc
        refine hw_aload_n X (Or.inr ⟨_, rfl⟩) dd_Mo_add_37 rfl ?_
        refine hw_bipush X (v := 64) dd_Mo_add_38 (by decide) ?_
        refine hw_bipush X (v := 24) dd_Mo_add_40 (by decide) ?_
        refine hw_aload_n X (Or.inr ⟨_, rfl⟩) dd_Mo_add_42 rfl ?_
        obtain ⟨x_7, h9, vc⟩ := vc
        refine hw_get X (fe_Mo_104 X) h9 dd_Mo_add_43 ?_
        refine hw_iadd X dd_Mo_add_46 ?_
        obtain ⟨hob, rm9, po9, hM9, hf9, hc9, vc⟩ := vc
        refine hw_callVv X (As := [.int (64 : Int32), .int ((24 : Int32) + x_7)]) (ye_Mo_114 X) hM9 rfl hf9 hc9 hob (Nat.le_of_ble_eq_true rfl) rfl dd_Mo_add_47 (fun w8 hp => ?_)
        replace vc := vc w8 hp
        refine hw_aload_n X (Or.inr ⟨_, rfl⟩) dd_Mo_add_50 rfl ?_
        obtain ⟨b_11, h9, vc⟩ := vc
        refine hw_get X (fe_Mo_25 X) h9 dd_Mo_add_51 ?_
        refine hw_aload_n X (Or.inr ⟨_, rfl⟩) dd_Mo_add_54 rfl ?_
        obtain ⟨x_12, h9, vc⟩ := vc
        refine hw_get X (fe_Mo_104 X) h9 dd_Mo_add_55 ?_
        refine hw_iload_n X dd_Mo_add_58 rfl ?_
        obtain ⟨w13, h9, vc⟩ := vc
        refine hw_iast X h9 dd_Mo_add_59 ?_
        refine hw_aload_n X (Or.inr ⟨_, rfl⟩) dd_Mo_add_60 rfl ?_
        refine hw_aload_n X (Or.inr ⟨_, rfl⟩) dd_Mo_add_61 rfl ?_
        obtain ⟨x_14, h9, vc⟩ := vc
        refine hw_get X (fe_Mo_104 X) h9 dd_Mo_add_62 ?_
        refine hw_iconst X (v := 1) dd_Mo_add_65 (by decide) ?_
        refine hw_iadd X dd_Mo_add_66 ?_
        obtain ⟨w15, h9, vc⟩ := vc
        refine hw_put X (fp_Mo_104 X) rfl rfl h9 dd_Mo_add_67 ?_
        refine hw_aload_n X (Or.inr ⟨_, rfl⟩) dd_Mo_add_70 rfl ?_
        refine hw_iload_n X dd_Mo_add_71 rfl ?_
        obtain ⟨w16, h9, vc⟩ := vc
        refine hw_put X (fp_Mo_107 X) rfl rfl h9 dd_Mo_add_72 ?_
        refine hw_aload_n X (Or.inr ⟨_, rfl⟩) dd_Mo_add_75 rfl ?_
        refine hw_aload_n X (Or.inr ⟨_, rfl⟩) dd_Mo_add_76 rfl ?_
        obtain ⟨x_17, h9, vc⟩ := vc
        refine hw_get X (fe_Mo_110 X) h9 dd_Mo_add_77 ?_
        refine hw_if_ne X (tgt := 93) dd_Mo_add_80 rfl (fun hc => ?_) (fun hc => ?_)
        · replace vc := vc.1 hc
          refine hw_iconst X (v := 1) dd_Mo_add_93 (by decide) ?_
          refine hw_goto X (tgt := 98) dd_Mo_add_94 rfl ?_
          obtain ⟨w18, h9, h8, vc⟩ := vc
          refine hw_put X (fp_Mo_110 X) (hw_b_nar h8) (hw_b_fit h8) h9 dd_Mo_add_98 ?_
          refine hw_iconst X (v := 1) dd_Mo_add_101 (by decide) ?_
          exact rt dd_Mo_add_102 vc
        · replace vc := vc.2 hc
          refine hw_aload_n X (Or.inr ⟨_, rfl⟩) dd_Mo_add_83 rfl ?_
          obtain ⟨b_19, h9, vc⟩ := vc
          refine hw_get X (fe_Mo_19 X) h9 dd_Mo_add_84 ?_
          refine hw_bipush X (v := 64) dd_Mo_add_87 (by decide) ?_
          obtain ⟨x_20, h9, vc⟩ := vc
          refine hw_iald X h9 dd_Mo_add_89 ?_
          refine hw_if_ne X (tgt := 97) dd_Mo_add_90 rfl (fun hc => ?_) (fun hc => ?_)
          · replace vc := vc.1 hc
            refine hw_iconst X (v := 0) dd_Mo_add_97 (by decide) ?_
            obtain ⟨w21, h9, h8, vc⟩ := vc
            refine hw_put X (fp_Mo_110 X) (hw_b_nar h8) (hw_b_fit h8) h9 dd_Mo_add_98 ?_
            refine hw_iconst X (v := 1) dd_Mo_add_101 (by decide) ?_
            exact rt dd_Mo_add_102 vc
          · replace vc := vc.2 hc
            refine hw_iconst X (v := 1) dd_Mo_add_93 (by decide) ?_
            refine hw_goto X (tgt := 98) dd_Mo_add_94 rfl ?_
            obtain ⟨w22, h9, h8, vc⟩ := vc
            refine hw_put X (fp_Mo_110 X) (hw_b_nar h8) (hw_b_fit h8) h9 dd_Mo_add_98 ?_
            refine hw_iconst X (v := 1) dd_Mo_add_101 (by decide) ?_
            exact rt dd_Mo_add_102 vc
      · replace vc := vc.2 hc
        refine hw_sipush X (v := -1000) dd_Mo_add_28 (by decide) ?_
        refine hw_aload_n X (Or.inr ⟨_, rfl⟩) dd_Mo_add_31 rfl ?_
        obtain ⟨x_23, h9, vc⟩ := vc
        refine hw_get X (fe_Mo_153 X) h9 dd_Mo_add_32 ?_
        refine hw_isub X dd_Mo_add_35 ?_
        exact rt dd_Mo_add_36 vc
    · replace vc := vc.2 hc
      refine hw_sipush X (v := -2000) dd_Mo_add_17 (by decide) ?_
      exact rt dd_Mo_add_20 vc
end
section
variable {p : Program} {l : Launch} {e : Env} {R : Room} {s : State} {m : MethodId} {args : Array Value} {below : List Frame} {meth : Method} {c : Code} {Q : State → Prop} {g : hw_G} {A : Nat → Prop} {k n : Nat} {w : hw_H}
def vc_Mo_follow_0 (l : Launch) (g : hw_G) (R : Room) (K : Nat → Nat → Nat → List (Option Value) → List Value → hw_H → Prop) (PR : Nat → Nat → Int32 → hw_H → Prop) (k n : Nat) (a0 : Nat) (w : hw_H) : Prop := K k n 2 [some (.ref a0), some (.int (0 : Int32)), none, none] [] w
set_option maxHeartbeats 4000000 in
set_option maxRecDepth 100000 in
theorem sg_Mo_follow_0 (X : hw_X p m c cb_Mo_follow 4 s args (mw_Mo_follow) "ProofCourtModel" g A) {K : Nat → Nat → Nat → List (Option Value) → List Value → hw_H → Prop} {PR : Nat → Nat → Int32 → hw_H → Prop} (hK : ∀ (k n pc : Nat) (lv : List (Option Value)) (st : List Value) (w : hw_H), K k n pc lv st w → hw_J p l e R s m args below meth c Q 4 g A k n pc lv st w) (rt : ∀ {k n pc : Nat} {lv : List (Option Value)} {x : Int32} {w : hw_H}, decode cb_Mo_follow pc = .ok (.ireturn, 1) → PR k n x w → hw_J p l e R s m args below meth c Q 4 g A k n pc lv [.int x] w) {a0 : Nat} (vc : vc_Mo_follow_0 l g R K PR k n a0 w) : hw_J p l e R s m args below meth c Q 4 g A k n 0 [some (.ref a0), none, none, none] [] w := by
  unfold vc_Mo_follow_0 at vc
  refine hw_iconst X (v := 0) dd_Mo_follow_0 (by decide) ?_
  refine hw_istore_n X dd_Mo_follow_1 (by decide) rfl ?_
  exact hK _ _ _ _ _ _ vc
def vc_Mo_follow_2 (l : Launch) (g : hw_G) (R : Room) (K : Nat → Nat → Nat → List (Option Value) → List Value → hw_H → Prop) (PR : Nat → Nat → Int32 → hw_H → Prop) (k n : Nat) (a0 : Nat) (x1 : Int32) (w : hw_H) : Prop := ∃ x_1 : Int32, hw_g w a0 8 20 (.int x_1) ∧ (∃ x_2 : Int32, hw_g w a0 8 16 (.int x_2) ∧ (((x_2 ≤ x_1) → (((x1 = 0) → (PR k n (0 : Int32) w)) ∧ ((¬ x1 = 0) → (PR k n (1 : Int32) w)))) ∧ ((¬ x_2 ≤ x_1) → (∃ b_3 : Nat, hw_g w a0 8 17 (.ref b_3) ∧ (∃ x_4 : Int32, hw_g w a0 8 20 (.int x_4) ∧ (∃ x_5 : Int32, hw_ai g 0 w b_3 x_4 x_5 ∧ (((x_5 ≤ 0) → (((x1 = 0) → (PR k n (0 : Int32) w)) ∧ ((¬ x1 = 0) → (PR k n (1 : Int32) w)))) ∧ ((¬ x_5 ≤ 0) → (((¬ x1 = 0) → (∃ x_6 : Int32, hw_g w a0 8 20 (.int x_6) ∧ (∃ w7 : hw_H, hw_p w a0 8 20 (.int (x_6 + (1 : Int32))) w7 ∧ (K k n 2 [some (.ref a0), some (.int x1), none, none] [] w7)))) ∧ ((x1 = 0) → (∃ b_8 : Nat, hw_g w a0 8 17 (.ref b_8) ∧ (∃ x_9 : Int32, hw_g w a0 8 20 (.int x_9) ∧ (∃ x_10 : Int32, hw_ai g 0 w b_8 x_9 x_10 ∧ (hw_o w a0 "ProofCourtModel" ∧ hw_ci l g R k n ym_Mo_find (mw_Mo_find) 4 [.ref a0, .int x_10] w (fun (k12 n13 : Nat) (x_14 : Int32) (w11 : hw_H) => ((0 ≤ x_14) → (hw_o w11 a0 "ProofCourtModel" ∧ hw_ci l g R k12 n13 ym_Mo_told (mw_Mo_told) 6 [.ref a0, .int ((24 : Int32) + x_14)] w11 (fun (k16 n17 : Nat) (x_18 : Int32) (w15 : hw_H) => K k16 n17 60 [some (.ref a0), some (.int x1), some (.int x_14), none] [.int x_18] w15))) ∧ ((¬ 0 ≤ x_14) → (K k12 n13 60 [some (.ref a0), some (.int x1), some (.int x_14), none] [.int (99 : Int32)] w11)))))))))))))))))
set_option maxHeartbeats 4000000 in
set_option maxRecDepth 100000 in
theorem sg_Mo_follow_2 (X : hw_X p m c cb_Mo_follow 4 s args (mw_Mo_follow) "ProofCourtModel" g A) {K : Nat → Nat → Nat → List (Option Value) → List Value → hw_H → Prop} {PR : Nat → Nat → Int32 → hw_H → Prop} (hK : ∀ (k n pc : Nat) (lv : List (Option Value)) (st : List Value) (w : hw_H), K k n pc lv st w → hw_J p l e R s m args below meth c Q 4 g A k n pc lv st w) (rt : ∀ {k n pc : Nat} {lv : List (Option Value)} {x : Int32} {w : hw_H}, decode cb_Mo_follow pc = .ok (.ireturn, 1) → PR k n x w → hw_J p l e R s m args below meth c Q 4 g A k n pc lv [.int x] w) {a0 : Nat} {x1 : Int32} (vc : vc_Mo_follow_2 l g R K PR k n a0 x1 w) : hw_J p l e R s m args below meth c Q 4 g A k n 2 [some (.ref a0), some (.int x1), none, none] [] w := by
  unfold vc_Mo_follow_2 at vc
  refine hw_aload_n X (Or.inr ⟨_, rfl⟩) dd_Mo_follow_2 rfl ?_
  obtain ⟨x_1, h9, vc⟩ := vc
  refine hw_get X (fe_Mo_153 X) h9 dd_Mo_follow_3 ?_
  refine hw_aload_n X (Or.inr ⟨_, rfl⟩) dd_Mo_follow_6 rfl ?_
  obtain ⟨x_2, h9, vc⟩ := vc
  refine hw_get X (fe_Mo_136 X) h9 dd_Mo_follow_7 ?_
  refine hw_icmp_ge X (tgt := 105) dd_Mo_follow_10 rfl (fun hc => ?_) (fun hc => ?_)
  · replace vc := vc.1 hc
    refine hw_iload_n X dd_Mo_follow_105 rfl ?_
    refine hw_if_eq X (tgt := 113) dd_Mo_follow_106 rfl (fun hc => ?_) (fun hc => ?_)
    · replace vc := vc.1 hc
      refine hw_iconst X (v := 0) dd_Mo_follow_113 (by decide) ?_
      exact rt dd_Mo_follow_114 vc
    · replace vc := vc.2 hc
      refine hw_iconst X (v := 1) dd_Mo_follow_109 (by decide) ?_
      refine hw_goto X (tgt := 114) dd_Mo_follow_110 rfl ?_
      exact rt dd_Mo_follow_114 vc
  · replace vc := vc.2 hc
    refine hw_aload_n X (Or.inr ⟨_, rfl⟩) dd_Mo_follow_13 rfl ?_
    obtain ⟨b_3, h9, vc⟩ := vc
    refine hw_get X (fe_Mo_28 X) h9 dd_Mo_follow_14 ?_
    refine hw_aload_n X (Or.inr ⟨_, rfl⟩) dd_Mo_follow_17 rfl ?_
    obtain ⟨x_4, h9, vc⟩ := vc
    refine hw_get X (fe_Mo_153 X) h9 dd_Mo_follow_18 ?_
    obtain ⟨x_5, h9, vc⟩ := vc
    refine hw_iald X h9 dd_Mo_follow_21 ?_
    refine hw_if_le X (tgt := 105) dd_Mo_follow_22 rfl (fun hc => ?_) (fun hc => ?_)
    · replace vc := vc.1 hc
      refine hw_iload_n X dd_Mo_follow_105 rfl ?_
      refine hw_if_eq X (tgt := 113) dd_Mo_follow_106 rfl (fun hc => ?_) (fun hc => ?_)
      · replace vc := vc.1 hc
        refine hw_iconst X (v := 0) dd_Mo_follow_113 (by decide) ?_
        exact rt dd_Mo_follow_114 vc
      · replace vc := vc.2 hc
        refine hw_iconst X (v := 1) dd_Mo_follow_109 (by decide) ?_
        refine hw_goto X (tgt := 114) dd_Mo_follow_110 rfl ?_
        exact rt dd_Mo_follow_114 vc
    · replace vc := vc.2 hc
      refine hw_iload_n X dd_Mo_follow_25 rfl ?_
      refine hw_if_ne X (tgt := 92) dd_Mo_follow_26 rfl (fun hc => ?_) (fun hc => ?_)
      · replace vc := vc.1 hc
        refine hw_aload_n X (Or.inr ⟨_, rfl⟩) dd_Mo_follow_92 rfl ?_
        refine hw_aload_n X (Or.inr ⟨_, rfl⟩) dd_Mo_follow_93 rfl ?_
        obtain ⟨x_6, h9, vc⟩ := vc
        refine hw_get X (fe_Mo_153 X) h9 dd_Mo_follow_94 ?_
        refine hw_iconst X (v := 1) dd_Mo_follow_97 (by decide) ?_
        refine hw_iadd X dd_Mo_follow_98 ?_
        obtain ⟨w7, h9, vc⟩ := vc
        refine hw_put X (fp_Mo_153 X) rfl rfl h9 dd_Mo_follow_99 ?_
        refine hw_goto X (tgt := 2) dd_Mo_follow_102 rfl ?_
        exact hK _ _ _ _ _ _ vc
      · replace vc := vc.2 hc
        refine hw_aload_n X (Or.inr ⟨_, rfl⟩) dd_Mo_follow_29 rfl ?_
        refine hw_aload_n X (Or.inr ⟨_, rfl⟩) dd_Mo_follow_30 rfl ?_
        obtain ⟨b_8, h9, vc⟩ := vc
        refine hw_get X (fe_Mo_28 X) h9 dd_Mo_follow_31 ?_
        refine hw_aload_n X (Or.inr ⟨_, rfl⟩) dd_Mo_follow_34 rfl ?_
        obtain ⟨x_9, h9, vc⟩ := vc
        refine hw_get X (fe_Mo_153 X) h9 dd_Mo_follow_35 ?_
        obtain ⟨x_10, h9, vc⟩ := vc
        refine hw_iald X h9 dd_Mo_follow_38 ?_
        obtain ⟨hob, rm9, po9, hM9, hf9, hc9, vc⟩ := vc
        refine hw_callVi X (As := [.int x_10]) (ye_Mo_117 X) hM9 rfl hf9 hc9 hob (Nat.le_of_ble_eq_true rfl) rfl dd_Mo_follow_39 (fun x_14 w11 hp => ?_)
        replace vc := vc x_14 w11 hp
        refine hw_istore_n X dd_Mo_follow_42 (by decide) rfl ?_
        refine hw_iload_n X dd_Mo_follow_43 rfl ?_
        refine hw_if_ge X (tgt := 52) dd_Mo_follow_44 rfl (fun hc => ?_) (fun hc => ?_)
        · replace vc := vc.1 hc
          refine hw_aload_n X (Or.inr ⟨_, rfl⟩) dd_Mo_follow_52 rfl ?_
          refine hw_bipush X (v := 24) dd_Mo_follow_53 (by decide) ?_
          refine hw_iload_n X dd_Mo_follow_55 rfl ?_
          refine hw_iadd X dd_Mo_follow_56 ?_
          obtain ⟨hob, rm9, po9, hM9, hf9, hc9, vc⟩ := vc
          refine hw_callVi X (As := [.int ((24 : Int32) + x_14)]) (ye_Mo_133 X) hM9 rfl hf9 hc9 hob (Nat.le_of_ble_eq_true rfl) rfl dd_Mo_follow_57 (fun x_18 w15 hp => ?_)
          replace vc := vc x_18 w15 hp
          exact hK _ _ _ _ _ _ vc
        · replace vc := vc.2 hc
          refine hw_bipush X (v := 99) dd_Mo_follow_47 (by decide) ?_
          refine hw_goto X (tgt := 60) dd_Mo_follow_49 rfl ?_
          exact hK _ _ _ _ _ _ vc
def vc_Mo_follow_60 (l : Launch) (g : hw_G) (R : Room) (K : Nat → Nat → Nat → List (Option Value) → List Value → hw_H → Prop) (PR : Nat → Nat → Int32 → hw_H → Prop) (k n : Nat) (a0 : Nat) (x1 : Int32) (x2 : Int32) (u0 : Int32) (w : hw_H) : Prop := ((¬ u0 = (99 : Int32)) → (((¬ u0 = 0) → (((u0 ≤ 0) → (∃ x_1 : Int32, hw_g w a0 8 20 (.int x_1) ∧ (∃ w2 : hw_H, hw_p w a0 8 20 (.int (x_1 + (1 : Int32))) w2 ∧ (K k n 2 [some (.ref a0), some (.int (0 : Int32)), none, none] [] w2)))) ∧ ((¬ u0 ≤ 0) → (∃ b_3 : Nat, hw_g w a0 8 18 (.ref b_3) ∧ (∃ w4 : hw_H, hw_as g 2 w b_3 (u0 - (1 : Int32)) (vp_nar .boolean (1 : Int32)) w4 ∧ (∃ x_5 : Int32, hw_g w4 a0 8 20 (.int x_5) ∧ (∃ w6 : hw_H, hw_p w4 a0 8 20 (.int (x_5 + (1 : Int32))) w6 ∧ (K k n 2 [some (.ref a0), some (.int (0 : Int32)), none, none] [] w6)))))))) ∧ ((u0 = 0) → (((u0 ≤ 0) → (∃ x_7 : Int32, hw_g w a0 8 20 (.int x_7) ∧ (∃ w8 : hw_H, hw_p w a0 8 20 (.int (x_7 + (1 : Int32))) w8 ∧ (K k n 2 [some (.ref a0), some (.int (1 : Int32)), none, none] [] w8)))) ∧ ((¬ u0 ≤ 0) → (∃ b_9 : Nat, hw_g w a0 8 18 (.ref b_9) ∧ (∃ w10 : hw_H, hw_as g 2 w b_9 (u0 - (1 : Int32)) (vp_nar .boolean (1 : Int32)) w10 ∧ (∃ x_11 : Int32, hw_g w10 a0 8 20 (.int x_11) ∧ (∃ w12 : hw_H, hw_p w10 a0 8 20 (.int (x_11 + (1 : Int32))) w12 ∧ (K k n 2 [some (.ref a0), some (.int (1 : Int32)), none, none] [] w12)))))))))) ∧ ((u0 = (99 : Int32)) → (PR k n (-1 : Int32) w))
set_option maxHeartbeats 4000000 in
set_option maxRecDepth 100000 in
theorem sg_Mo_follow_60 (X : hw_X p m c cb_Mo_follow 4 s args (mw_Mo_follow) "ProofCourtModel" g A) {K : Nat → Nat → Nat → List (Option Value) → List Value → hw_H → Prop} {PR : Nat → Nat → Int32 → hw_H → Prop} (hK : ∀ (k n pc : Nat) (lv : List (Option Value)) (st : List Value) (w : hw_H), K k n pc lv st w → hw_J p l e R s m args below meth c Q 4 g A k n pc lv st w) (rt : ∀ {k n pc : Nat} {lv : List (Option Value)} {x : Int32} {w : hw_H}, decode cb_Mo_follow pc = .ok (.ireturn, 1) → PR k n x w → hw_J p l e R s m args below meth c Q 4 g A k n pc lv [.int x] w) {a0 : Nat} {x1 : Int32} {x2 : Int32} {u0 : Int32} (vc : vc_Mo_follow_60 l g R K PR k n a0 x1 x2 u0 w) : hw_J p l e R s m args below meth c Q 4 g A k n 60 [some (.ref a0), some (.int x1), some (.int x2), none] [.int u0] w := by
  unfold vc_Mo_follow_60 at vc
  refine hw_istore_n X dd_Mo_follow_60 (by decide) rfl ?_
  refine hw_iload_n X dd_Mo_follow_61 rfl ?_
  refine hw_bipush X (v := 99) dd_Mo_follow_62 (by decide) ?_
  refine hw_icmp_ne X (tgt := 69) dd_Mo_follow_64 rfl (fun hc => ?_) (fun hc => ?_)
  · replace vc := vc.1 hc
    refine hw_iload_n X dd_Mo_follow_69 rfl ?_
    refine hw_if_ne X (tgt := 77) dd_Mo_follow_70 rfl (fun hc => ?_) (fun hc => ?_)
    · replace vc := vc.1 hc
      refine hw_iconst X (v := 0) dd_Mo_follow_77 (by decide) ?_
      refine hw_istore_n X dd_Mo_follow_78 (by decide) rfl ?_
      refine hw_iload_n X dd_Mo_follow_79 rfl ?_
      refine hw_if_le X (tgt := 92) dd_Mo_follow_80 rfl (fun hc => ?_) (fun hc => ?_)
      · replace vc := vc.1 hc
        refine hw_aload_n X (Or.inr ⟨_, rfl⟩) dd_Mo_follow_92 rfl ?_
        refine hw_aload_n X (Or.inr ⟨_, rfl⟩) dd_Mo_follow_93 rfl ?_
        obtain ⟨x_1, h9, vc⟩ := vc
        refine hw_get X (fe_Mo_153 X) h9 dd_Mo_follow_94 ?_
        refine hw_iconst X (v := 1) dd_Mo_follow_97 (by decide) ?_
        refine hw_iadd X dd_Mo_follow_98 ?_
        obtain ⟨w2, h9, vc⟩ := vc
        refine hw_put X (fp_Mo_153 X) rfl rfl h9 dd_Mo_follow_99 ?_
        refine hw_goto X (tgt := 2) dd_Mo_follow_102 rfl ?_
        exact hw_drop (lv9 := [some (.ref a0), some (.int (0 : Int32)), none, none]) (⟨rfl, ⟨rfl, ⟨trivial, ⟨trivial, trivial⟩⟩⟩⟩) (hK _ _ _ _ _ _ vc)
      · replace vc := vc.2 hc
        refine hw_aload_n X (Or.inr ⟨_, rfl⟩) dd_Mo_follow_83 rfl ?_
        obtain ⟨b_3, h9, vc⟩ := vc
        refine hw_get X (fe_Mo_31 X) h9 dd_Mo_follow_84 ?_
        refine hw_iload_n X dd_Mo_follow_87 rfl ?_
        refine hw_iconst X (v := 1) dd_Mo_follow_88 (by decide) ?_
        refine hw_isub X dd_Mo_follow_89 ?_
        refine hw_iconst X (v := 1) dd_Mo_follow_90 (by decide) ?_
        obtain ⟨w4, h9, vc⟩ := vc
        refine hw_zast X h9 dd_Mo_follow_91 ?_
        refine hw_aload_n X (Or.inr ⟨_, rfl⟩) dd_Mo_follow_92 rfl ?_
        refine hw_aload_n X (Or.inr ⟨_, rfl⟩) dd_Mo_follow_93 rfl ?_
        obtain ⟨x_5, h9, vc⟩ := vc
        refine hw_get X (fe_Mo_153 X) h9 dd_Mo_follow_94 ?_
        refine hw_iconst X (v := 1) dd_Mo_follow_97 (by decide) ?_
        refine hw_iadd X dd_Mo_follow_98 ?_
        obtain ⟨w6, h9, vc⟩ := vc
        refine hw_put X (fp_Mo_153 X) rfl rfl h9 dd_Mo_follow_99 ?_
        refine hw_goto X (tgt := 2) dd_Mo_follow_102 rfl ?_
        exact hw_drop (lv9 := [some (.ref a0), some (.int (0 : Int32)), none, none]) (⟨rfl, ⟨rfl, ⟨trivial, ⟨trivial, trivial⟩⟩⟩⟩) (hK _ _ _ _ _ _ vc)
    · replace vc := vc.2 hc
      refine hw_iconst X (v := 1) dd_Mo_follow_73 (by decide) ?_
      refine hw_goto X (tgt := 78) dd_Mo_follow_74 rfl ?_
      refine hw_istore_n X dd_Mo_follow_78 (by decide) rfl ?_
      refine hw_iload_n X dd_Mo_follow_79 rfl ?_
      refine hw_if_le X (tgt := 92) dd_Mo_follow_80 rfl (fun hc => ?_) (fun hc => ?_)
      · replace vc := vc.1 hc
        refine hw_aload_n X (Or.inr ⟨_, rfl⟩) dd_Mo_follow_92 rfl ?_
        refine hw_aload_n X (Or.inr ⟨_, rfl⟩) dd_Mo_follow_93 rfl ?_
        obtain ⟨x_7, h9, vc⟩ := vc
        refine hw_get X (fe_Mo_153 X) h9 dd_Mo_follow_94 ?_
        refine hw_iconst X (v := 1) dd_Mo_follow_97 (by decide) ?_
        refine hw_iadd X dd_Mo_follow_98 ?_
        obtain ⟨w8, h9, vc⟩ := vc
        refine hw_put X (fp_Mo_153 X) rfl rfl h9 dd_Mo_follow_99 ?_
        refine hw_goto X (tgt := 2) dd_Mo_follow_102 rfl ?_
        exact hw_drop (lv9 := [some (.ref a0), some (.int (1 : Int32)), none, none]) (⟨rfl, ⟨rfl, ⟨trivial, ⟨trivial, trivial⟩⟩⟩⟩) (hK _ _ _ _ _ _ vc)
      · replace vc := vc.2 hc
        refine hw_aload_n X (Or.inr ⟨_, rfl⟩) dd_Mo_follow_83 rfl ?_
        obtain ⟨b_9, h9, vc⟩ := vc
        refine hw_get X (fe_Mo_31 X) h9 dd_Mo_follow_84 ?_
        refine hw_iload_n X dd_Mo_follow_87 rfl ?_
        refine hw_iconst X (v := 1) dd_Mo_follow_88 (by decide) ?_
        refine hw_isub X dd_Mo_follow_89 ?_
        refine hw_iconst X (v := 1) dd_Mo_follow_90 (by decide) ?_
        obtain ⟨w10, h9, vc⟩ := vc
        refine hw_zast X h9 dd_Mo_follow_91 ?_
        refine hw_aload_n X (Or.inr ⟨_, rfl⟩) dd_Mo_follow_92 rfl ?_
        refine hw_aload_n X (Or.inr ⟨_, rfl⟩) dd_Mo_follow_93 rfl ?_
        obtain ⟨x_11, h9, vc⟩ := vc
        refine hw_get X (fe_Mo_153 X) h9 dd_Mo_follow_94 ?_
        refine hw_iconst X (v := 1) dd_Mo_follow_97 (by decide) ?_
        refine hw_iadd X dd_Mo_follow_98 ?_
        obtain ⟨w12, h9, vc⟩ := vc
        refine hw_put X (fp_Mo_153 X) rfl rfl h9 dd_Mo_follow_99 ?_
        refine hw_goto X (tgt := 2) dd_Mo_follow_102 rfl ?_
        exact hw_drop (lv9 := [some (.ref a0), some (.int (1 : Int32)), none, none]) (⟨rfl, ⟨rfl, ⟨trivial, ⟨trivial, trivial⟩⟩⟩⟩) (hK _ _ _ _ _ _ vc)
  · replace vc := vc.2 hc
    refine hw_iconst X (v := -1) dd_Mo_follow_67 (by decide) ?_
    exact rt dd_Mo_follow_68 vc
end
section
variable {p : Program} {l : Launch} {e : Env} {R : Room} {s : State} {m : MethodId} {args : Array Value} {below : List Frame} {meth : Method} {c : Code} {Q : State → Prop} {g : hw_G} {A : Nat → Prop} {k n : Nat} {w : hw_H}
def vc_Mo_holds_0 (l : Launch) (g : hw_G) (R : Room) (K : Nat → Nat → Nat → List (Option Value) → List Value → hw_H → Prop) (PR : Nat → Nat → Int32 → hw_H → Prop) (k n : Nat) (a0 : Nat) (w : hw_H) : Prop := hw_o w a0 "ProofCourtModel" ∧ hw_cv l g R k n ym_Mo_forget (mw_Mo_forget) 2 [.ref a0] w (fun (k2 n3 : Nat) (w1 : hw_H) => ∃ w4 : hw_H, hw_p w1 a0 8 20 (.int (0 : Int32)) w4 ∧ (K k2 n3 13 [some (.ref a0), some (.int (0 : Int32)), some (.int (0 : Int32))] [] w4))
set_option maxHeartbeats 4000000 in
set_option maxRecDepth 100000 in
theorem sg_Mo_holds_0 (X : hw_X p m c cb_Mo_holds 3 s args (mw_Mo_holds) "ProofCourtModel" g A) {K : Nat → Nat → Nat → List (Option Value) → List Value → hw_H → Prop} {PR : Nat → Nat → Int32 → hw_H → Prop} (hK : ∀ (k n pc : Nat) (lv : List (Option Value)) (st : List Value) (w : hw_H), K k n pc lv st w → hw_J p l e R s m args below meth c Q 3 g A k n pc lv st w) (rt : ∀ {k n pc : Nat} {lv : List (Option Value)} {x : Int32} {w : hw_H}, decode cb_Mo_holds pc = .ok (.ireturn, 1) → PR k n x w → hw_J p l e R s m args below meth c Q 3 g A k n pc lv [.int x] w) {a0 : Nat} (vc : vc_Mo_holds_0 l g R K PR k n a0 w) : hw_J p l e R s m args below meth c Q 3 g A k n 0 [some (.ref a0), none, none] [] w := by
  unfold vc_Mo_holds_0 at vc
  refine hw_aload_n X (Or.inr ⟨_, rfl⟩) dd_Mo_holds_0 rfl ?_
  obtain ⟨hob, rm9, po9, hM9, hf9, hc9, vc⟩ := vc
  refine hw_callVv X (As := []) (ye_Mo_130 X) hM9 rfl hf9 hc9 hob (Nat.le_of_ble_eq_true rfl) rfl dd_Mo_holds_1 (fun w1 hp => ?_)
  replace vc := vc w1 hp
  refine hw_aload_n X (Or.inr ⟨_, rfl⟩) dd_Mo_holds_4 rfl ?_
  refine hw_iconst X (v := 0) dd_Mo_holds_5 (by decide) ?_
  obtain ⟨w4, h9, vc⟩ := vc
  refine hw_put X (fp_Mo_153 X) rfl rfl h9 dd_Mo_holds_6 ?_
  refine hw_iconst X (v := 0) dd_Mo_holds_9 (by decide) ?_
  refine hw_istore_n X dd_Mo_holds_10 (by decide) rfl ?_
  refine hw_iconst X (v := 0) dd_Mo_holds_11 (by decide) ?_
  refine hw_istore_n X dd_Mo_holds_12 (by decide) rfl ?_
  exact hK _ _ _ _ _ _ vc
def vc_Mo_holds_13 (l : Launch) (g : hw_G) (R : Room) (K : Nat → Nat → Nat → List (Option Value) → List Value → hw_H → Prop) (PR : Nat → Nat → Int32 → hw_H → Prop) (k n : Nat) (a0 : Nat) (x1 : Int32) (x2 : Int32) (w : hw_H) : Prop := ∃ b_1 : Nat, hw_g w a0 8 9 (.ref b_1) ∧ (∃ x_2 : Int32, hw_ai g 0 w b_1 (64 : Int32) x_2 ∧ (((x_2 ≤ x2) → (((x1 = 0) → (hw_o w a0 "ProofCourtModel" ∧ hw_ci l g R k n ym_Mo_follow (mw_Mo_follow) 4 [.ref a0] w (fun (k4 n5 : Nat) (x_6 : Int32) (w3 : hw_H) => ((x_6 = 0) → (∃ b_7 : Nat, hw_g w3 a0 8 9 (.ref b_7) ∧ (∃ x_8 : Int32, hw_ai g 0 w3 b_7 (64 : Int32) x_8 ∧ (((x_8 ≤ 0) → (PR k4 n5 (0 : Int32) w3)) ∧ ((¬ x_8 ≤ 0) → (hw_o w3 a0 "ProofCourtModel" ∧ hw_ci l g R k4 n5 ym_Mo_literalOf (mw_Mo_literalOf) 3 [.ref a0, .int (64 : Int32), .int (0 : Int32)] w3 (fun (k10 n11 : Nat) (x_12 : Int32) (w9 : hw_H) => hw_o w9 a0 "ProofCourtModel" ∧ hw_ci l g R k10 n11 ym_Mo_groupsHold (mw_Mo_groupsHold) 3 [.ref a0, .int (-x_12)] w9 (fun (k14 n15 : Nat) (x_16 : Int32) (w13 : hw_H) => ((x_16 = 0) → (PR k14 n15 (0 : Int32) w13)) ∧ ((¬ x_16 = 0) → (PR k14 n15 (1 : Int32) w13)))))))))) ∧ ((¬ x_6 = 0) → (((x_6 ≤ 0) → (PR k4 n5 (0 : Int32) w3)) ∧ ((¬ x_6 ≤ 0) → (PR k4 n5 (1 : Int32) w3))))))) ∧ ((¬ x1 = 0) → (PR k n (1 : Int32) w)))) ∧ ((¬ x_2 ≤ x2) → (∃ b_17 : Nat, hw_g w a0 8 18 (.ref b_17) ∧ (hw_o w a0 "ProofCourtModel" ∧ hw_ci l g R k n ym_Mo_literalOf (mw_Mo_literalOf) 3 [.ref a0, .int (64 : Int32), .int x2] w (fun (k19 n20 : Nat) (x_21 : Int32) (w18 : hw_H) => ∃ w22 : hw_H, hw_as g 2 w18 b_17 ((10 : Int32) - x_21) (vp_nar .boolean (1 : Int32)) w22 ∧ (((¬ x1 = 0) → (K k19 n20 13 [some (.ref a0), some (.int (1 : Int32)), some (.int (x2 + 1))] [] w22)) ∧ ((x1 = 0) → (hw_o w22 a0 "ProofCourtModel" ∧ hw_ci l g R k19 n20 ym_Mo_literalOf (mw_Mo_literalOf) 3 [.ref a0, .int (64 : Int32), .int x2] w22 (fun (k24 n25 : Nat) (x_26 : Int32) (w23 : hw_H) => hw_o w23 a0 "ProofCourtModel" ∧ hw_ci l g R k24 n25 ym_Mo_hasLiteral (mw_Mo_hasLiteral) 5 [.ref a0, .int (64 : Int32), .int (-x_26)] w23 (fun (k28 n29 : Nat) (x_30 : Int32) (w27 : hw_H) => ((x_30 = 0) → (K k28 n29 13 [some (.ref a0), some (.int (0 : Int32)), some (.int (x2 + 1))] [] w27)) ∧ ((¬ x_30 = 0) → (K k28 n29 13 [some (.ref a0), some (.int (1 : Int32)), some (.int (x2 + 1))] [] w27)))))))))))))
set_option maxHeartbeats 4000000 in
set_option maxRecDepth 100000 in
theorem sg_Mo_holds_13 (X : hw_X p m c cb_Mo_holds 3 s args (mw_Mo_holds) "ProofCourtModel" g A) {K : Nat → Nat → Nat → List (Option Value) → List Value → hw_H → Prop} {PR : Nat → Nat → Int32 → hw_H → Prop} (hK : ∀ (k n pc : Nat) (lv : List (Option Value)) (st : List Value) (w : hw_H), K k n pc lv st w → hw_J p l e R s m args below meth c Q 3 g A k n pc lv st w) (rt : ∀ {k n pc : Nat} {lv : List (Option Value)} {x : Int32} {w : hw_H}, decode cb_Mo_holds pc = .ok (.ireturn, 1) → PR k n x w → hw_J p l e R s m args below meth c Q 3 g A k n pc lv [.int x] w) {a0 : Nat} {x1 : Int32} {x2 : Int32} (vc : vc_Mo_holds_13 l g R K PR k n a0 x1 x2 w) : hw_J p l e R s m args below meth c Q 3 g A k n 13 [some (.ref a0), some (.int x1), some (.int x2)] [] w := by
  unfold vc_Mo_holds_13 at vc
  refine hw_iload_n X dd_Mo_holds_13 rfl ?_
  refine hw_aload_n X (Or.inr ⟨_, rfl⟩) dd_Mo_holds_14 rfl ?_
  obtain ⟨b_1, h9, vc⟩ := vc
  refine hw_get X (fe_Mo_19 X) h9 dd_Mo_holds_15 ?_
  refine hw_bipush X (v := 64) dd_Mo_holds_18 (by decide) ?_
  obtain ⟨x_2, h9, vc⟩ := vc
  refine hw_iald X h9 dd_Mo_holds_20 ?_
  refine hw_icmp_ge X (tgt := 73) dd_Mo_holds_21 rfl (fun hc => ?_) (fun hc => ?_)
  · replace vc := vc.1 hc
    refine hw_iload_n X dd_Mo_holds_73 rfl ?_
    refine hw_if_eq X (tgt := 79) dd_Mo_holds_74 rfl (fun hc => ?_) (fun hc => ?_)
    · replace vc := vc.1 hc
      refine hw_aload_n X (Or.inr ⟨_, rfl⟩) dd_Mo_holds_79 rfl ?_
      obtain ⟨hob, rm9, po9, hM9, hf9, hc9, vc⟩ := vc
      refine hw_callVi X (As := []) (ye_Mo_156 X) hM9 rfl hf9 hc9 hob (Nat.le_of_ble_eq_true rfl) rfl dd_Mo_holds_80 (fun x_6 w3 hp => ?_)
      replace vc := vc x_6 w3 hp
      refine hw_istore_n X dd_Mo_holds_83 (by decide) rfl ?_
      refine hw_iload_n X dd_Mo_holds_84 rfl ?_
      refine hw_if_eq X (tgt := 98) dd_Mo_holds_85 rfl (fun hc => ?_) (fun hc => ?_)
      · replace vc := vc.1 hc
        refine hw_aload_n X (Or.inr ⟨_, rfl⟩) dd_Mo_holds_98 rfl ?_
        obtain ⟨b_7, h9, vc⟩ := vc
        refine hw_get X (fe_Mo_19 X) h9 dd_Mo_holds_99 ?_
        refine hw_bipush X (v := 64) dd_Mo_holds_102 (by decide) ?_
        obtain ⟨x_8, h9, vc⟩ := vc
        refine hw_iald X h9 dd_Mo_holds_104 ?_
        refine hw_if_le X (tgt := 127) dd_Mo_holds_105 rfl (fun hc => ?_) (fun hc => ?_)
        · replace vc := vc.1 hc
          refine hw_iconst X (v := 0) dd_Mo_holds_127 (by decide) ?_
          exact rt dd_Mo_holds_128 vc
        · replace vc := vc.2 hc
          refine hw_aload_n X (Or.inr ⟨_, rfl⟩) dd_Mo_holds_108 rfl ?_
          refine hw_aload_n X (Or.inr ⟨_, rfl⟩) dd_Mo_holds_109 rfl ?_
          refine hw_bipush X (v := 64) dd_Mo_holds_110 (by decide) ?_
          refine hw_iconst X (v := 0) dd_Mo_holds_112 (by decide) ?_
          obtain ⟨hob, rm9, po9, hM9, hf9, hc9, vc⟩ := vc
          refine hw_callVi X (As := [.int (64 : Int32), .int (0 : Int32)]) (ye_Mo_76 X) hM9 rfl hf9 hc9 hob (Nat.le_of_ble_eq_true rfl) rfl dd_Mo_holds_113 (fun x_12 w9 hp => ?_)
          replace vc := vc x_12 w9 hp
          refine hw_ineg X dd_Mo_holds_116 ?_
          obtain ⟨hob, rm9, po9, hM9, hf9, hc9, vc⟩ := vc
          refine hw_callVi X (As := [.int (-x_12)]) (ye_Mo_159 X) hM9 rfl hf9 hc9 hob (Nat.le_of_ble_eq_true rfl) rfl dd_Mo_holds_117 (fun x_16 w13 hp => ?_)
          replace vc := vc x_16 w13 hp
          refine hw_if_eq X (tgt := 127) dd_Mo_holds_120 rfl (fun hc => ?_) (fun hc => ?_)
          · replace vc := vc.1 hc
            refine hw_iconst X (v := 0) dd_Mo_holds_127 (by decide) ?_
            exact rt dd_Mo_holds_128 vc
          · replace vc := vc.2 hc
            refine hw_iconst X (v := 1) dd_Mo_holds_123 (by decide) ?_
            refine hw_goto X (tgt := 128) dd_Mo_holds_124 rfl ?_
            exact rt dd_Mo_holds_128 vc
      · replace vc := vc.2 hc
        refine hw_iload_n X dd_Mo_holds_88 rfl ?_
        refine hw_if_le X (tgt := 96) dd_Mo_holds_89 rfl (fun hc => ?_) (fun hc => ?_)
        · replace vc := vc.1 hc
          refine hw_iconst X (v := 0) dd_Mo_holds_96 (by decide) ?_
          exact rt dd_Mo_holds_97 vc
        · replace vc := vc.2 hc
          refine hw_iconst X (v := 1) dd_Mo_holds_92 (by decide) ?_
          refine hw_goto X (tgt := 97) dd_Mo_holds_93 rfl ?_
          exact rt dd_Mo_holds_97 vc
    · replace vc := vc.2 hc
      refine hw_iconst X (v := 1) dd_Mo_holds_77 (by decide) ?_
      exact rt dd_Mo_holds_78 vc
  · replace vc := vc.2 hc
    refine hw_aload_n X (Or.inr ⟨_, rfl⟩) dd_Mo_holds_24 rfl ?_
    obtain ⟨b_17, h9, vc⟩ := vc
    refine hw_get X (fe_Mo_31 X) h9 dd_Mo_holds_25 ?_
    refine hw_bipush X (v := 10) dd_Mo_holds_28 (by decide) ?_
    refine hw_aload_n X (Or.inr ⟨_, rfl⟩) dd_Mo_holds_30 rfl ?_
    refine hw_bipush X (v := 64) dd_Mo_holds_31 (by decide) ?_
    refine hw_iload_n X dd_Mo_holds_33 rfl ?_
    obtain ⟨hob, rm9, po9, hM9, hf9, hc9, vc⟩ := vc
    refine hw_callVi X (As := [.int (64 : Int32), .int x2]) (ye_Mo_76 X) hM9 rfl hf9 hc9 hob (Nat.le_of_ble_eq_true rfl) rfl dd_Mo_holds_34 (fun x_21 w18 hp => ?_)
    replace vc := vc x_21 w18 hp
    refine hw_isub X dd_Mo_holds_37 ?_
    refine hw_iconst X (v := 1) dd_Mo_holds_38 (by decide) ?_
    obtain ⟨w22, h9, vc⟩ := vc
    refine hw_zast X h9 dd_Mo_holds_39 ?_
    refine hw_iload_n X dd_Mo_holds_40 rfl ?_
    refine hw_if_ne X (tgt := 61) dd_Mo_holds_41 rfl (fun hc => ?_) (fun hc => ?_)
    · replace vc := vc.1 hc
      refine hw_iconst X (v := 1) dd_Mo_holds_61 (by decide) ?_
      refine hw_goto X (tgt := 66) dd_Mo_holds_62 rfl ?_
      refine hw_istore_n X dd_Mo_holds_66 (by decide) rfl ?_
      refine hw_iinc X (v := (x2 + 1)) dd_Mo_holds_67 rfl rfl (by decide) rfl ?_
      refine hw_goto X (tgt := 13) dd_Mo_holds_70 rfl ?_
      exact hK _ _ _ _ _ _ vc
    · replace vc := vc.2 hc
      refine hw_aload_n X (Or.inr ⟨_, rfl⟩) dd_Mo_holds_44 rfl ?_
      refine hw_bipush X (v := 64) dd_Mo_holds_45 (by decide) ?_
      refine hw_aload_n X (Or.inr ⟨_, rfl⟩) dd_Mo_holds_47 rfl ?_
      refine hw_bipush X (v := 64) dd_Mo_holds_48 (by decide) ?_
      refine hw_iload_n X dd_Mo_holds_50 rfl ?_
      obtain ⟨hob, rm9, po9, hM9, hf9, hc9, vc⟩ := vc
      refine hw_callVi X (As := [.int (64 : Int32), .int x2]) (ye_Mo_76 X) hM9 rfl hf9 hc9 hob (Nat.le_of_ble_eq_true rfl) rfl dd_Mo_holds_51 (fun x_26 w23 hp => ?_)
      replace vc := vc x_26 w23 hp
      refine hw_ineg X dd_Mo_holds_54 ?_
      obtain ⟨hob, rm9, po9, hM9, hf9, hc9, vc⟩ := vc
      refine hw_callVi X (As := [.int (64 : Int32), .int (-x_26)]) (ye_Mo_83 X) hM9 rfl hf9 hc9 hob (Nat.le_of_ble_eq_true rfl) rfl dd_Mo_holds_55 (fun x_30 w27 hp => ?_)
      replace vc := vc x_30 w27 hp
      refine hw_if_eq X (tgt := 65) dd_Mo_holds_58 rfl (fun hc => ?_) (fun hc => ?_)
      · replace vc := vc.1 hc
        refine hw_iconst X (v := 0) dd_Mo_holds_65 (by decide) ?_
        refine hw_istore_n X dd_Mo_holds_66 (by decide) rfl ?_
        refine hw_iinc X (v := (x2 + 1)) dd_Mo_holds_67 rfl rfl (by decide) rfl ?_
        refine hw_goto X (tgt := 13) dd_Mo_holds_70 rfl ?_
        exact hK _ _ _ _ _ _ vc
      · replace vc := vc.2 hc
        refine hw_iconst X (v := 1) dd_Mo_holds_61 (by decide) ?_
        refine hw_goto X (tgt := 66) dd_Mo_holds_62 rfl ?_
        refine hw_istore_n X dd_Mo_holds_66 (by decide) rfl ?_
        refine hw_iinc X (v := (x2 + 1)) dd_Mo_holds_67 rfl rfl (by decide) rfl ?_
        refine hw_goto X (tgt := 13) dd_Mo_holds_70 rfl ?_
        exact hK _ _ _ _ _ _ vc
end
section
variable {p : Program} {l : Launch} {e : Env} {R : Room} {s : State} {m : MethodId} {args : Array Value} {below : List Frame} {meth : Method} {c : Code} {Q : State → Prop} {g : hw_G} {A : Nat → Prop} {k n : Nat} {w : hw_H}
def vc_Mo_groupsHold_0 (l : Launch) (g : hw_G) (R : Room) (K : Nat → Nat → Nat → List (Option Value) → List Value → hw_H → Prop) (PR : Nat → Nat → Int32 → hw_H → Prop) (k n : Nat) (a0 : Nat) (x1 : Int32) (w : hw_H) : Prop := K k n 2 [some (.ref a0), some (.int x1), some (.int (0 : Int32))] [] w
set_option maxHeartbeats 4000000 in
set_option maxRecDepth 100000 in
theorem sg_Mo_groupsHold_0 (X : hw_X p m c cb_Mo_groupsHold 3 s args (mw_Mo_groupsHold) "ProofCourtModel" g A) {K : Nat → Nat → Nat → List (Option Value) → List Value → hw_H → Prop} {PR : Nat → Nat → Int32 → hw_H → Prop} (hK : ∀ (k n pc : Nat) (lv : List (Option Value)) (st : List Value) (w : hw_H), K k n pc lv st w → hw_J p l e R s m args below meth c Q 3 g A k n pc lv st w) (rt : ∀ {k n pc : Nat} {lv : List (Option Value)} {x : Int32} {w : hw_H}, decode cb_Mo_groupsHold pc = .ok (.ireturn, 1) → PR k n x w → hw_J p l e R s m args below meth c Q 3 g A k n pc lv [.int x] w) {a0 : Nat} {x1 : Int32} (vc : vc_Mo_groupsHold_0 l g R K PR k n a0 x1 w) : hw_J p l e R s m args below meth c Q 3 g A k n 0 [some (.ref a0), some (.int x1), none] [] w := by
  unfold vc_Mo_groupsHold_0 at vc
  refine hw_iconst X (v := 0) dd_Mo_groupsHold_0 (by decide) ?_
  refine hw_istore_n X dd_Mo_groupsHold_1 (by decide) rfl ?_
  exact hK _ _ _ _ _ _ vc
def vc_Mo_groupsHold_2 (l : Launch) (g : hw_G) (R : Room) (K : Nat → Nat → Nat → List (Option Value) → List Value → hw_H → Prop) (PR : Nat → Nat → Int32 → hw_H → Prop) (k n : Nat) (a0 : Nat) (x1 : Int32) (x2 : Int32) (w : hw_H) : Prop := (((21 : Int32) ≤ x2) → (K k n 28 [some (.ref a0), some (.int x1), some (.int (0 : Int32))] [] w)) ∧ ((¬ (21 : Int32) ≤ x2) → (∃ b_1 : Nat, hw_g w a0 8 19 (.ref b_1) ∧ (∃ b_2 : Nat, hw_g w a0 8 18 (.ref b_2) ∧ (∃ x_3 : Int32, hw_ai g 2 w b_2 x2 x_3 ∧ (∃ w4 : hw_H, hw_as g 2 w b_1 x2 (vp_nar .boolean x_3) w4 ∧ (K k n 2 [some (.ref a0), some (.int x1), some (.int (x2 + 1))] [] w4))))))
set_option maxHeartbeats 4000000 in
set_option maxRecDepth 100000 in
theorem sg_Mo_groupsHold_2 (X : hw_X p m c cb_Mo_groupsHold 3 s args (mw_Mo_groupsHold) "ProofCourtModel" g A) {K : Nat → Nat → Nat → List (Option Value) → List Value → hw_H → Prop} {PR : Nat → Nat → Int32 → hw_H → Prop} (hK : ∀ (k n pc : Nat) (lv : List (Option Value)) (st : List Value) (w : hw_H), K k n pc lv st w → hw_J p l e R s m args below meth c Q 3 g A k n pc lv st w) (rt : ∀ {k n pc : Nat} {lv : List (Option Value)} {x : Int32} {w : hw_H}, decode cb_Mo_groupsHold pc = .ok (.ireturn, 1) → PR k n x w → hw_J p l e R s m args below meth c Q 3 g A k n pc lv [.int x] w) {a0 : Nat} {x1 : Int32} {x2 : Int32} (vc : vc_Mo_groupsHold_2 l g R K PR k n a0 x1 x2 w) : hw_J p l e R s m args below meth c Q 3 g A k n 2 [some (.ref a0), some (.int x1), some (.int x2)] [] w := by
  unfold vc_Mo_groupsHold_2 at vc
  refine hw_iload_n X dd_Mo_groupsHold_2 rfl ?_
  refine hw_bipush X (v := 21) dd_Mo_groupsHold_3 (by decide) ?_
  refine hw_icmp_ge X (tgt := 26) dd_Mo_groupsHold_5 rfl (fun hc => ?_) (fun hc => ?_)
  · replace vc := vc.1 hc
    refine hw_iconst X (v := 0) dd_Mo_groupsHold_26 (by decide) ?_
    refine hw_istore_n X dd_Mo_groupsHold_27 (by decide) rfl ?_
    exact hK _ _ _ _ _ _ vc
  · replace vc := vc.2 hc
    refine hw_aload_n X (Or.inr ⟨_, rfl⟩) dd_Mo_groupsHold_8 rfl ?_
    obtain ⟨b_1, h9, vc⟩ := vc
    refine hw_get X (fe_Mo_35 X) h9 dd_Mo_groupsHold_9 ?_
    refine hw_iload_n X dd_Mo_groupsHold_12 rfl ?_
    refine hw_aload_n X (Or.inr ⟨_, rfl⟩) dd_Mo_groupsHold_13 rfl ?_
    obtain ⟨b_2, h9, vc⟩ := vc
    refine hw_get X (fe_Mo_31 X) h9 dd_Mo_groupsHold_14 ?_
    refine hw_iload_n X dd_Mo_groupsHold_17 rfl ?_
    obtain ⟨x_3, h9, vc⟩ := vc
    refine hw_zald X h9 dd_Mo_groupsHold_18 ?_
    obtain ⟨w4, h9, vc⟩ := vc
    refine hw_zast X h9 dd_Mo_groupsHold_19 ?_
    refine hw_iinc X (v := (x2 + 1)) dd_Mo_groupsHold_20 rfl rfl (by decide) rfl ?_
    refine hw_goto X (tgt := 2) dd_Mo_groupsHold_23 rfl ?_
    exact hK _ _ _ _ _ _ vc
def vc_Mo_groupsHold_28 (l : Launch) (g : hw_G) (R : Room) (K : Nat → Nat → Nat → List (Option Value) → List Value → hw_H → Prop) (PR : Nat → Nat → Int32 → hw_H → Prop) (k n : Nat) (a0 : Nat) (x1 : Int32) (x2 : Int32) (w : hw_H) : Prop := ∃ x_1 : Int32, hw_g w a0 8 13 (.int x_1) ∧ (((x_1 ≤ x2) → (∃ x_2 : Int32, hw_g w a0 8 20 (.int x_2) ∧ (∃ x_3 : Int32, hw_g w a0 8 16 (.int x_3) ∧ (((x_2 < x_3) → (PR k n (0 : Int32) w)) ∧ ((¬ x_2 < x_3) → (PR k n (1 : Int32) w)))))) ∧ ((¬ x_1 ≤ x2) → (hw_o w a0 "ProofCourtModel" ∧ hw_ci l g R k n ym_Mo_hasLiteral (mw_Mo_hasLiteral) 5 [.ref a0, .int ((24 : Int32) + x2), .int x1] w (fun (k5 n6 : Nat) (x_7 : Int32) (w4 : hw_H) => ((x_7 = 0) → (K k5 n6 28 [some (.ref a0), some (.int x1), some (.int (x2 + 1))] [] w4)) ∧ ((¬ x_7 = 0) → (∃ x_8 : Int32, hw_g w4 a0 8 20 (.int x_8) ∧ (∃ x_9 : Int32, hw_g w4 a0 8 16 (.int x_9) ∧ (((x_9 ≤ x_8) → (PR k5 n6 (0 : Int32) w4)) ∧ ((¬ x_9 ≤ x_8) → (∃ b_10 : Nat, hw_g w4 a0 8 17 (.ref b_10) ∧ (∃ x_11 : Int32, hw_g w4 a0 8 20 (.int x_11) ∧ (∃ x_12 : Int32, hw_ai g 0 w4 b_10 x_11 x_12 ∧ (∃ b_13 : Nat, hw_g w4 a0 8 11 (.ref b_13) ∧ (∃ x_14 : Int32, hw_ai g 0 w4 b_13 x2 x_14 ∧ (((x_12 = (-x_14)) → (∃ x_15 : Int32, hw_g w4 a0 8 20 (.int x_15) ∧ (∃ w16 : hw_H, hw_p w4 a0 8 20 (.int (x_15 + (1 : Int32))) w16 ∧ (hw_o w16 a0 "ProofCourtModel" ∧ hw_ci l g R k5 n6 ym_Mo_suppose (mw_Mo_suppose) 5 [.ref a0, .int ((24 : Int32) + x2), .int x1] w16 (fun (k18 n19 : Nat) (x_20 : Int32) (w17 : hw_H) => ((x_20 = 0) → (hw_o w17 a0 "ProofCourtModel" ∧ hw_ci l g R k18 n19 ym_Mo_follow (mw_Mo_follow) 4 [.ref a0] w17 (fun (k22 n23 : Nat) (x_24 : Int32) (w21 : hw_H) => ((x_24 = (1 : Int32)) → (K k22 n23 28 [some (.ref a0), some (.int x1), some (.int (x2 + 1))] [] w21)) ∧ ((¬ x_24 = (1 : Int32)) → (PR k22 n23 (0 : Int32) w21))))) ∧ ((¬ x_20 = 0) → (K k18 n19 102 [some (.ref a0), some (.int x1), some (.int x2)] [] w17))))))) ∧ ((¬ x_12 = (-x_14)) → (PR k5 n6 (0 : Int32) w4)))))))))))))))))
set_option maxHeartbeats 4000000 in
set_option maxRecDepth 100000 in
theorem sg_Mo_groupsHold_28 (X : hw_X p m c cb_Mo_groupsHold 3 s args (mw_Mo_groupsHold) "ProofCourtModel" g A) {K : Nat → Nat → Nat → List (Option Value) → List Value → hw_H → Prop} {PR : Nat → Nat → Int32 → hw_H → Prop} (hK : ∀ (k n pc : Nat) (lv : List (Option Value)) (st : List Value) (w : hw_H), K k n pc lv st w → hw_J p l e R s m args below meth c Q 3 g A k n pc lv st w) (rt : ∀ {k n pc : Nat} {lv : List (Option Value)} {x : Int32} {w : hw_H}, decode cb_Mo_groupsHold pc = .ok (.ireturn, 1) → PR k n x w → hw_J p l e R s m args below meth c Q 3 g A k n pc lv [.int x] w) {a0 : Nat} {x1 : Int32} {x2 : Int32} (vc : vc_Mo_groupsHold_28 l g R K PR k n a0 x1 x2 w) : hw_J p l e R s m args below meth c Q 3 g A k n 28 [some (.ref a0), some (.int x1), some (.int x2)] [] w := by
  unfold vc_Mo_groupsHold_28 at vc
  refine hw_iload_n X dd_Mo_groupsHold_28 rfl ?_
  refine hw_aload_n X (Or.inr ⟨_, rfl⟩) dd_Mo_groupsHold_29 rfl ?_
  obtain ⟨x_1, h9, vc⟩ := vc
  refine hw_get X (fe_Mo_104 X) h9 dd_Mo_groupsHold_30 ?_
  refine hw_icmp_ge X (tgt := 154) dd_Mo_groupsHold_33 rfl (fun hc => ?_) (fun hc => ?_)
  · replace vc := vc.1 hc
    refine hw_aload_n X (Or.inr ⟨_, rfl⟩) dd_Mo_groupsHold_154 rfl ?_
    obtain ⟨x_2, h9, vc⟩ := vc
    refine hw_get X (fe_Mo_153 X) h9 dd_Mo_groupsHold_155 ?_
    refine hw_aload_n X (Or.inr ⟨_, rfl⟩) dd_Mo_groupsHold_158 rfl ?_
    obtain ⟨x_3, h9, vc⟩ := vc
    refine hw_get X (fe_Mo_136 X) h9 dd_Mo_groupsHold_159 ?_
    refine hw_icmp_lt X (tgt := 169) dd_Mo_groupsHold_162 rfl (fun hc => ?_) (fun hc => ?_)
    · replace vc := vc.1 hc
      refine hw_iconst X (v := 0) dd_Mo_groupsHold_169 (by decide) ?_
      exact rt dd_Mo_groupsHold_170 vc
    · replace vc := vc.2 hc
      refine hw_iconst X (v := 1) dd_Mo_groupsHold_165 (by decide) ?_
      refine hw_goto X (tgt := 170) dd_Mo_groupsHold_166 rfl ?_
      exact rt dd_Mo_groupsHold_170 vc
  · replace vc := vc.2 hc
    refine hw_aload_n X (Or.inr ⟨_, rfl⟩) dd_Mo_groupsHold_36 rfl ?_
    refine hw_bipush X (v := 24) dd_Mo_groupsHold_37 (by decide) ?_
    refine hw_iload_n X dd_Mo_groupsHold_39 rfl ?_
    refine hw_iadd X dd_Mo_groupsHold_40 ?_
    refine hw_iload_n X dd_Mo_groupsHold_41 rfl ?_
    obtain ⟨hob, rm9, po9, hM9, hf9, hc9, vc⟩ := vc
    refine hw_callVi X (As := [.int ((24 : Int32) + x2), .int x1]) (ye_Mo_83 X) hM9 rfl hf9 hc9 hob (Nat.le_of_ble_eq_true rfl) rfl dd_Mo_groupsHold_42 (fun x_7 w4 hp => ?_)
    replace vc := vc x_7 w4 hp
    refine hw_if_eq X (tgt := 148) dd_Mo_groupsHold_45 rfl (fun hc => ?_) (fun hc => ?_)
    · replace vc := vc.1 hc
      refine hw_iinc X (v := (x2 + 1)) dd_Mo_groupsHold_148 rfl rfl (by decide) rfl ?_
      refine hw_goto X (tgt := 28) dd_Mo_groupsHold_151 rfl ?_
      exact hK _ _ _ _ _ _ vc
    · replace vc := vc.2 hc
      refine hw_aload_n X (Or.inr ⟨_, rfl⟩) dd_Mo_groupsHold_48 rfl ?_
      obtain ⟨x_8, h9, vc⟩ := vc
      refine hw_get X (fe_Mo_153 X) h9 dd_Mo_groupsHold_49 ?_
      refine hw_aload_n X (Or.inr ⟨_, rfl⟩) dd_Mo_groupsHold_52 rfl ?_
      obtain ⟨x_9, h9, vc⟩ := vc
      refine hw_get X (fe_Mo_136 X) h9 dd_Mo_groupsHold_53 ?_
      refine hw_icmp_ge X (tgt := 78) dd_Mo_groupsHold_56 rfl (fun hc => ?_) (fun hc => ?_)
      · replace vc := vc.1 hc
        refine hw_iconst X (v := 0) dd_Mo_groupsHold_78 (by decide) ?_
        exact rt dd_Mo_groupsHold_79 vc
      · replace vc := vc.2 hc
        refine hw_aload_n X (Or.inr ⟨_, rfl⟩) dd_Mo_groupsHold_59 rfl ?_
        obtain ⟨b_10, h9, vc⟩ := vc
        refine hw_get X (fe_Mo_28 X) h9 dd_Mo_groupsHold_60 ?_
        refine hw_aload_n X (Or.inr ⟨_, rfl⟩) dd_Mo_groupsHold_63 rfl ?_
        obtain ⟨x_11, h9, vc⟩ := vc
        refine hw_get X (fe_Mo_153 X) h9 dd_Mo_groupsHold_64 ?_
        obtain ⟨x_12, h9, vc⟩ := vc
        refine hw_iald X h9 dd_Mo_groupsHold_67 ?_
        refine hw_aload_n X (Or.inr ⟨_, rfl⟩) dd_Mo_groupsHold_68 rfl ?_
        obtain ⟨b_13, h9, vc⟩ := vc
        refine hw_get X (fe_Mo_25 X) h9 dd_Mo_groupsHold_69 ?_
        refine hw_iload_n X dd_Mo_groupsHold_72 rfl ?_
        obtain ⟨x_14, h9, vc⟩ := vc
        refine hw_iald X h9 dd_Mo_groupsHold_73 ?_
        refine hw_ineg X dd_Mo_groupsHold_74 ?_
        refine hw_icmp_eq X (tgt := 80) dd_Mo_groupsHold_75 rfl (fun hc => ?_) (fun hc => ?_)
        · replace vc := vc.1 hc
          refine hw_aload_n X (Or.inr ⟨_, rfl⟩) dd_Mo_groupsHold_80 rfl ?_
          refine hw_aload_n X (Or.inr ⟨_, rfl⟩) dd_Mo_groupsHold_81 rfl ?_
          obtain ⟨x_15, h9, vc⟩ := vc
          refine hw_get X (fe_Mo_153 X) h9 dd_Mo_groupsHold_82 ?_
          refine hw_iconst X (v := 1) dd_Mo_groupsHold_85 (by decide) ?_
          refine hw_iadd X dd_Mo_groupsHold_86 ?_
          obtain ⟨w16, h9, vc⟩ := vc
          refine hw_put X (fp_Mo_153 X) rfl rfl h9 dd_Mo_groupsHold_87 ?_
          refine hw_aload_n X (Or.inr ⟨_, rfl⟩) dd_Mo_groupsHold_90 rfl ?_
          refine hw_bipush X (v := 24) dd_Mo_groupsHold_91 (by decide) ?_
          refine hw_iload_n X dd_Mo_groupsHold_93 rfl ?_
          refine hw_iadd X dd_Mo_groupsHold_94 ?_
          refine hw_iload_n X dd_Mo_groupsHold_95 rfl ?_
          obtain ⟨hob, rm9, po9, hM9, hf9, hc9, vc⟩ := vc
          refine hw_callVi X (As := [.int ((24 : Int32) + x2), .int x1]) (ye_Mo_162 X) hM9 rfl hf9 hc9 hob (Nat.le_of_ble_eq_true rfl) rfl dd_Mo_groupsHold_96 (fun x_20 w17 hp => ?_)
          replace vc := vc x_20 w17 hp
          refine hw_if_eq X (tgt := 138) dd_Mo_groupsHold_99 rfl (fun hc => ?_) (fun hc => ?_)
          · replace vc := vc.1 hc
            refine hw_aload_n X (Or.inr ⟨_, rfl⟩) dd_Mo_groupsHold_138 rfl ?_
            obtain ⟨hob, rm9, po9, hM9, hf9, hc9, vc⟩ := vc
            refine hw_callVi X (As := []) (ye_Mo_156 X) hM9 rfl hf9 hc9 hob (Nat.le_of_ble_eq_true rfl) rfl dd_Mo_groupsHold_139 (fun x_24 w21 hp => ?_)
            replace vc := vc x_24 w21 hp
            refine hw_iconst X (v := 1) dd_Mo_groupsHold_142 (by decide) ?_
            refine hw_icmp_eq X (tgt := 148) dd_Mo_groupsHold_143 rfl (fun hc => ?_) (fun hc => ?_)
            · replace vc := vc.1 hc
              refine hw_iinc X (v := (x2 + 1)) dd_Mo_groupsHold_148 rfl rfl (by decide) rfl ?_
              refine hw_goto X (tgt := 28) dd_Mo_groupsHold_151 rfl ?_
              exact hK _ _ _ _ _ _ vc
            · replace vc := vc.2 hc
              refine hw_iconst X (v := 0) dd_Mo_groupsHold_146 (by decide) ?_
              exact rt dd_Mo_groupsHold_147 vc
          · replace vc := vc.2 hc
            exact hK _ _ _ _ _ _ vc
        · replace vc := vc.2 hc
          refine hw_iconst X (v := 0) dd_Mo_groupsHold_78 (by decide) ?_
          exact rt dd_Mo_groupsHold_79 vc
def vc_Mo_groupsHold_102 (l : Launch) (g : hw_G) (R : Room) (K : Nat → Nat → Nat → List (Option Value) → List Value → hw_H → Prop) (PR : Nat → Nat → Int32 → hw_H → Prop) (k n : Nat) (a0 : Nat) (x1 : Int32) (x2 : Int32) (w : hw_H) : Prop := ∃ x_1 : Int32, hw_g w a0 8 20 (.int x_1) ∧ (∃ x_2 : Int32, hw_g w a0 8 16 (.int x_2) ∧ (((x_2 ≤ x_1) → (K k n 28 [some (.ref a0), some (.int x1), some (.int (x2 + 1))] [] w)) ∧ ((¬ x_2 ≤ x_1) → (∃ b_3 : Nat, hw_g w a0 8 17 (.ref b_3) ∧ (∃ x_4 : Int32, hw_g w a0 8 20 (.int x_4) ∧ (∃ x_5 : Int32, hw_ai g 0 w b_3 x_4 x_5 ∧ (((x_5 ≤ 0) → (K k n 28 [some (.ref a0), some (.int x1), some (.int (x2 + 1))] [] w)) ∧ ((¬ x_5 ≤ 0) → (∃ x_6 : Int32, hw_g w a0 8 20 (.int x_6) ∧ (∃ w7 : hw_H, hw_p w a0 8 20 (.int (x_6 + (1 : Int32))) w7 ∧ (K k n 102 [some (.ref a0), some (.int x1), some (.int x2)] [] w7)))))))))))
set_option maxHeartbeats 4000000 in
set_option maxRecDepth 100000 in
theorem sg_Mo_groupsHold_102 (X : hw_X p m c cb_Mo_groupsHold 3 s args (mw_Mo_groupsHold) "ProofCourtModel" g A) {K : Nat → Nat → Nat → List (Option Value) → List Value → hw_H → Prop} {PR : Nat → Nat → Int32 → hw_H → Prop} (hK : ∀ (k n pc : Nat) (lv : List (Option Value)) (st : List Value) (w : hw_H), K k n pc lv st w → hw_J p l e R s m args below meth c Q 3 g A k n pc lv st w) (rt : ∀ {k n pc : Nat} {lv : List (Option Value)} {x : Int32} {w : hw_H}, decode cb_Mo_groupsHold pc = .ok (.ireturn, 1) → PR k n x w → hw_J p l e R s m args below meth c Q 3 g A k n pc lv [.int x] w) {a0 : Nat} {x1 : Int32} {x2 : Int32} (vc : vc_Mo_groupsHold_102 l g R K PR k n a0 x1 x2 w) : hw_J p l e R s m args below meth c Q 3 g A k n 102 [some (.ref a0), some (.int x1), some (.int x2)] [] w := by
  unfold vc_Mo_groupsHold_102 at vc
  refine hw_aload_n X (Or.inr ⟨_, rfl⟩) dd_Mo_groupsHold_102 rfl ?_
  obtain ⟨x_1, h9, vc⟩ := vc
  refine hw_get X (fe_Mo_153 X) h9 dd_Mo_groupsHold_103 ?_
  refine hw_aload_n X (Or.inr ⟨_, rfl⟩) dd_Mo_groupsHold_106 rfl ?_
  obtain ⟨x_2, h9, vc⟩ := vc
  refine hw_get X (fe_Mo_136 X) h9 dd_Mo_groupsHold_107 ?_
  refine hw_icmp_ge X (tgt := 148) dd_Mo_groupsHold_110 rfl (fun hc => ?_) (fun hc => ?_)
  · replace vc := vc.1 hc
    refine hw_iinc X (v := (x2 + 1)) dd_Mo_groupsHold_148 rfl rfl (by decide) rfl ?_
    refine hw_goto X (tgt := 28) dd_Mo_groupsHold_151 rfl ?_
    exact hK _ _ _ _ _ _ vc
  · replace vc := vc.2 hc
    refine hw_aload_n X (Or.inr ⟨_, rfl⟩) dd_Mo_groupsHold_113 rfl ?_
    obtain ⟨b_3, h9, vc⟩ := vc
    refine hw_get X (fe_Mo_28 X) h9 dd_Mo_groupsHold_114 ?_
    refine hw_aload_n X (Or.inr ⟨_, rfl⟩) dd_Mo_groupsHold_117 rfl ?_
    obtain ⟨x_4, h9, vc⟩ := vc
    refine hw_get X (fe_Mo_153 X) h9 dd_Mo_groupsHold_118 ?_
    obtain ⟨x_5, h9, vc⟩ := vc
    refine hw_iald X h9 dd_Mo_groupsHold_121 ?_
    refine hw_if_le X (tgt := 148) dd_Mo_groupsHold_122 rfl (fun hc => ?_) (fun hc => ?_)
    · replace vc := vc.1 hc
      refine hw_iinc X (v := (x2 + 1)) dd_Mo_groupsHold_148 rfl rfl (by decide) rfl ?_
      refine hw_goto X (tgt := 28) dd_Mo_groupsHold_151 rfl ?_
      exact hK _ _ _ _ _ _ vc
    · replace vc := vc.2 hc
      refine hw_aload_n X (Or.inr ⟨_, rfl⟩) dd_Mo_groupsHold_125 rfl ?_
      refine hw_aload_n X (Or.inr ⟨_, rfl⟩) dd_Mo_groupsHold_126 rfl ?_
      obtain ⟨x_6, h9, vc⟩ := vc
      refine hw_get X (fe_Mo_153 X) h9 dd_Mo_groupsHold_127 ?_
      refine hw_iconst X (v := 1) dd_Mo_groupsHold_130 (by decide) ?_
      refine hw_iadd X dd_Mo_groupsHold_131 ?_
      obtain ⟨w7, h9, vc⟩ := vc
      refine hw_put X (fp_Mo_153 X) rfl rfl h9 dd_Mo_groupsHold_132 ?_
      refine hw_goto X (tgt := 102) dd_Mo_groupsHold_135 rfl ?_
      exact hK _ _ _ _ _ _ vc
end
section
variable {p : Program} {l : Launch} {e : Env} {R : Room} {s : State} {m : MethodId} {args : Array Value} {below : List Frame} {meth : Method} {c : Code} {Q : State → Prop} {g : hw_G} {A : Nat → Prop} {k n : Nat} {w : hw_H}
def vc_Mo_suppose_0 (l : Launch) (g : hw_G) (R : Room) (K : Nat → Nat → Nat → List (Option Value) → List Value → hw_H → Prop) (PR : Nat → Nat → Int32 → hw_H → Prop) (k n : Nat) (a0 : Nat) (x1 : Int32) (x2 : Int32) (w : hw_H) : Prop := K k n 5 [some (.ref a0), some (.int x1), some (.int x2), some (.int (0 : Int32)), some (.int (0 : Int32))] [] w
set_option maxHeartbeats 4000000 in
set_option maxRecDepth 100000 in
theorem sg_Mo_suppose_0 (X : hw_X p m c cb_Mo_suppose 5 s args (mw_Mo_suppose) "ProofCourtModel" g A) {K : Nat → Nat → Nat → List (Option Value) → List Value → hw_H → Prop} {PR : Nat → Nat → Int32 → hw_H → Prop} (hK : ∀ (k n pc : Nat) (lv : List (Option Value)) (st : List Value) (w : hw_H), K k n pc lv st w → hw_J p l e R s m args below meth c Q 5 g A k n pc lv st w) (rt : ∀ {k n pc : Nat} {lv : List (Option Value)} {x : Int32} {w : hw_H}, decode cb_Mo_suppose pc = .ok (.ireturn, 1) → PR k n x w → hw_J p l e R s m args below meth c Q 5 g A k n pc lv [.int x] w) {a0 : Nat} {x1 : Int32} {x2 : Int32} (vc : vc_Mo_suppose_0 l g R K PR k n a0 x1 x2 w) : hw_J p l e R s m args below meth c Q 5 g A k n 0 [some (.ref a0), some (.int x1), some (.int x2), none, none] [] w := by
  unfold vc_Mo_suppose_0 at vc
  refine hw_iconst X (v := 0) dd_Mo_suppose_0 (by decide) ?_
  refine hw_istore_n X dd_Mo_suppose_1 (by decide) rfl ?_
  refine hw_iconst X (v := 0) dd_Mo_suppose_2 (by decide) ?_
  refine hw_istore X dd_Mo_suppose_3 (by decide) rfl ?_
  exact hK _ _ _ _ _ _ vc
def vc_Mo_suppose_5 (l : Launch) (g : hw_G) (R : Room) (K : Nat → Nat → Nat → List (Option Value) → List Value → hw_H → Prop) (PR : Nat → Nat → Int32 → hw_H → Prop) (k n : Nat) (a0 : Nat) (x1 : Int32) (x2 : Int32) (x3 : Int32) (x4 : Int32) (w : hw_H) : Prop := (((21 : Int32) ≤ x4) → (K k n 35 [some (.ref a0), some (.int x1), some (.int x2), some (.int x3), some (.int (0 : Int32))] [] w)) ∧ ((¬ (21 : Int32) ≤ x4) → (∃ b_1 : Nat, hw_g w a0 8 18 (.ref b_1) ∧ (∃ b_2 : Nat, hw_g w a0 8 19 (.ref b_2) ∧ (∃ x_3 : Int32, hw_ai g 2 w b_2 x4 x_3 ∧ (∃ w4 : hw_H, hw_as g 2 w b_1 x4 (vp_nar .boolean x_3) w4 ∧ (K k n 5 [some (.ref a0), some (.int x1), some (.int x2), some (.int x3), some (.int (x4 + 1))] [] w4))))))
set_option maxHeartbeats 4000000 in
set_option maxRecDepth 100000 in
theorem sg_Mo_suppose_5 (X : hw_X p m c cb_Mo_suppose 5 s args (mw_Mo_suppose) "ProofCourtModel" g A) {K : Nat → Nat → Nat → List (Option Value) → List Value → hw_H → Prop} {PR : Nat → Nat → Int32 → hw_H → Prop} (hK : ∀ (k n pc : Nat) (lv : List (Option Value)) (st : List Value) (w : hw_H), K k n pc lv st w → hw_J p l e R s m args below meth c Q 5 g A k n pc lv st w) (rt : ∀ {k n pc : Nat} {lv : List (Option Value)} {x : Int32} {w : hw_H}, decode cb_Mo_suppose pc = .ok (.ireturn, 1) → PR k n x w → hw_J p l e R s m args below meth c Q 5 g A k n pc lv [.int x] w) {a0 : Nat} {x1 : Int32} {x2 : Int32} {x3 : Int32} {x4 : Int32} (vc : vc_Mo_suppose_5 l g R K PR k n a0 x1 x2 x3 x4 w) : hw_J p l e R s m args below meth c Q 5 g A k n 5 [some (.ref a0), some (.int x1), some (.int x2), some (.int x3), some (.int x4)] [] w := by
  unfold vc_Mo_suppose_5 at vc
  refine hw_iload X dd_Mo_suppose_5 rfl ?_
  refine hw_bipush X (v := 21) dd_Mo_suppose_7 (by decide) ?_
  refine hw_icmp_ge X (tgt := 32) dd_Mo_suppose_9 rfl (fun hc => ?_) (fun hc => ?_)
  · replace vc := vc.1 hc
    refine hw_iconst X (v := 0) dd_Mo_suppose_32 (by decide) ?_
    refine hw_istore X dd_Mo_suppose_33 (by decide) rfl ?_
    exact hK _ _ _ _ _ _ vc
  · replace vc := vc.2 hc
    refine hw_aload_n X (Or.inr ⟨_, rfl⟩) dd_Mo_suppose_12 rfl ?_
    obtain ⟨b_1, h9, vc⟩ := vc
    refine hw_get X (fe_Mo_31 X) h9 dd_Mo_suppose_13 ?_
    refine hw_iload X dd_Mo_suppose_16 rfl ?_
    refine hw_aload_n X (Or.inr ⟨_, rfl⟩) dd_Mo_suppose_18 rfl ?_
    obtain ⟨b_2, h9, vc⟩ := vc
    refine hw_get X (fe_Mo_35 X) h9 dd_Mo_suppose_19 ?_
    refine hw_iload X dd_Mo_suppose_22 rfl ?_
    obtain ⟨x_3, h9, vc⟩ := vc
    refine hw_zald X h9 dd_Mo_suppose_24 ?_
    obtain ⟨w4, h9, vc⟩ := vc
    refine hw_zast X h9 dd_Mo_suppose_25 ?_
    refine hw_iinc X (v := (x4 + 1)) dd_Mo_suppose_26 rfl rfl (by decide) rfl ?_
    refine hw_goto X (tgt := 5) dd_Mo_suppose_29 rfl ?_
    exact hK _ _ _ _ _ _ vc
def vc_Mo_suppose_35 (l : Launch) (g : hw_G) (R : Room) (K : Nat → Nat → Nat → List (Option Value) → List Value → hw_H → Prop) (PR : Nat → Nat → Int32 → hw_H → Prop) (k n : Nat) (a0 : Nat) (x1 : Int32) (x2 : Int32) (x3 : Int32) (x4 : Int32) (w : hw_H) : Prop := ∃ b_1 : Nat, hw_g w a0 8 9 (.ref b_1) ∧ (∃ x_2 : Int32, hw_ai g 0 w b_1 x1 x_2 ∧ (((x_2 ≤ x4) → (K k n 94 [some (.ref a0), some (.int x1), some (.int x2), some (.int x3), some (.int (0 : Int32))] [] w)) ∧ ((¬ x_2 ≤ x4) → (((¬ x3 = 0) → (K k n 35 [some (.ref a0), some (.int x1), some (.int x2), some (.int (1 : Int32)), some (.int (x4 + 1))] [] w)) ∧ ((x3 = 0) → (hw_o w a0 "ProofCourtModel" ∧ hw_ci l g R k n ym_Mo_literalOf (mw_Mo_literalOf) 3 [.ref a0, .int x1, .int x4] w (fun (k4 n5 : Nat) (x_6 : Int32) (w3 : hw_H) => ((x_6 = x2) → (K k4 n5 35 [some (.ref a0), some (.int x1), some (.int x2), some (.int (0 : Int32)), some (.int (x4 + 1))] [] w3)) ∧ ((¬ x_6 = x2) → (∃ b_7 : Nat, hw_g w3 a0 8 18 (.ref b_7) ∧ (hw_o w3 a0 "ProofCourtModel" ∧ hw_ci l g R k4 n5 ym_Mo_literalOf (mw_Mo_literalOf) 3 [.ref a0, .int x1, .int x4] w3 (fun (k9 n10 : Nat) (x_11 : Int32) (w8 : hw_H) => ∃ x_12 : Int32, hw_ai g 2 w8 b_7 ((10 : Int32) + x_11) x_12 ∧ (((x_12 = 0) → (K k9 n10 35 [some (.ref a0), some (.int x1), some (.int x2), some (.int (0 : Int32)), some (.int (x4 + 1))] [] w8)) ∧ ((¬ x_12 = 0) → (K k9 n10 35 [some (.ref a0), some (.int x1), some (.int x2), some (.int (1 : Int32)), some (.int (x4 + 1))] [] w8))))))))))))))
set_option maxHeartbeats 4000000 in
set_option maxRecDepth 100000 in
theorem sg_Mo_suppose_35 (X : hw_X p m c cb_Mo_suppose 5 s args (mw_Mo_suppose) "ProofCourtModel" g A) {K : Nat → Nat → Nat → List (Option Value) → List Value → hw_H → Prop} {PR : Nat → Nat → Int32 → hw_H → Prop} (hK : ∀ (k n pc : Nat) (lv : List (Option Value)) (st : List Value) (w : hw_H), K k n pc lv st w → hw_J p l e R s m args below meth c Q 5 g A k n pc lv st w) (rt : ∀ {k n pc : Nat} {lv : List (Option Value)} {x : Int32} {w : hw_H}, decode cb_Mo_suppose pc = .ok (.ireturn, 1) → PR k n x w → hw_J p l e R s m args below meth c Q 5 g A k n pc lv [.int x] w) {a0 : Nat} {x1 : Int32} {x2 : Int32} {x3 : Int32} {x4 : Int32} (vc : vc_Mo_suppose_35 l g R K PR k n a0 x1 x2 x3 x4 w) : hw_J p l e R s m args below meth c Q 5 g A k n 35 [some (.ref a0), some (.int x1), some (.int x2), some (.int x3), some (.int x4)] [] w := by
  unfold vc_Mo_suppose_35 at vc
  refine hw_iload X dd_Mo_suppose_35 rfl ?_
  refine hw_aload_n X (Or.inr ⟨_, rfl⟩) dd_Mo_suppose_37 rfl ?_
  obtain ⟨b_1, h9, vc⟩ := vc
  refine hw_get X (fe_Mo_19 X) h9 dd_Mo_suppose_38 ?_
  refine hw_iload_n X dd_Mo_suppose_41 rfl ?_
  obtain ⟨x_2, h9, vc⟩ := vc
  refine hw_iald X h9 dd_Mo_suppose_42 ?_
  refine hw_icmp_ge X (tgt := 91) dd_Mo_suppose_43 rfl (fun hc => ?_) (fun hc => ?_)
  · replace vc := vc.1 hc
    refine hw_iconst X (v := 0) dd_Mo_suppose_91 (by decide) ?_
    refine hw_istore X dd_Mo_suppose_92 (by decide) rfl ?_
    exact hK _ _ _ _ _ _ vc
  · replace vc := vc.2 hc
    refine hw_iload_n X dd_Mo_suppose_46 rfl ?_
    refine hw_if_ne X (tgt := 79) dd_Mo_suppose_47 rfl (fun hc => ?_) (fun hc => ?_)
    · replace vc := vc.1 hc
      refine hw_iconst X (v := 1) dd_Mo_suppose_79 (by decide) ?_
      refine hw_goto X (tgt := 84) dd_Mo_suppose_80 rfl ?_
      refine hw_istore_n X dd_Mo_suppose_84 (by decide) rfl ?_
      refine hw_iinc X (v := (x4 + 1)) dd_Mo_suppose_85 rfl rfl (by decide) rfl ?_
      refine hw_goto X (tgt := 35) dd_Mo_suppose_88 rfl ?_
      exact hK _ _ _ _ _ _ vc
    · replace vc := vc.2 hc
      refine hw_aload_n X (Or.inr ⟨_, rfl⟩) dd_Mo_suppose_50 rfl ?_
      refine hw_iload_n X dd_Mo_suppose_51 rfl ?_
      refine hw_iload X dd_Mo_suppose_52 rfl ?_
      obtain ⟨hob, rm9, po9, hM9, hf9, hc9, vc⟩ := vc
      refine hw_callVi X (As := [.int x1, .int x4]) (ye_Mo_76 X) hM9 rfl hf9 hc9 hob (Nat.le_of_ble_eq_true rfl) rfl dd_Mo_suppose_54 (fun x_6 w3 hp => ?_)
      replace vc := vc x_6 w3 hp
      refine hw_iload_n X dd_Mo_suppose_57 rfl ?_
      refine hw_icmp_eq X (tgt := 83) dd_Mo_suppose_58 rfl (fun hc => ?_) (fun hc => ?_)
      · replace vc := vc.1 hc
        refine hw_iconst X (v := 0) dd_Mo_suppose_83 (by decide) ?_
        refine hw_istore_n X dd_Mo_suppose_84 (by decide) rfl ?_
        refine hw_iinc X (v := (x4 + 1)) dd_Mo_suppose_85 rfl rfl (by decide) rfl ?_
        refine hw_goto X (tgt := 35) dd_Mo_suppose_88 rfl ?_
        exact hK _ _ _ _ _ _ vc
      · replace vc := vc.2 hc
        refine hw_aload_n X (Or.inr ⟨_, rfl⟩) dd_Mo_suppose_61 rfl ?_
        obtain ⟨b_7, h9, vc⟩ := vc
        refine hw_get X (fe_Mo_31 X) h9 dd_Mo_suppose_62 ?_
        refine hw_bipush X (v := 10) dd_Mo_suppose_65 (by decide) ?_
        refine hw_aload_n X (Or.inr ⟨_, rfl⟩) dd_Mo_suppose_67 rfl ?_
        refine hw_iload_n X dd_Mo_suppose_68 rfl ?_
        refine hw_iload X dd_Mo_suppose_69 rfl ?_
        obtain ⟨hob, rm9, po9, hM9, hf9, hc9, vc⟩ := vc
        refine hw_callVi X (As := [.int x1, .int x4]) (ye_Mo_76 X) hM9 rfl hf9 hc9 hob (Nat.le_of_ble_eq_true rfl) rfl dd_Mo_suppose_71 (fun x_11 w8 hp => ?_)
        replace vc := vc x_11 w8 hp
        refine hw_iadd X dd_Mo_suppose_74 ?_
        obtain ⟨x_12, h9, vc⟩ := vc
        refine hw_zald X h9 dd_Mo_suppose_75 ?_
        refine hw_if_eq X (tgt := 83) dd_Mo_suppose_76 rfl (fun hc => ?_) (fun hc => ?_)
        · replace vc := vc.1 hc
          refine hw_iconst X (v := 0) dd_Mo_suppose_83 (by decide) ?_
          refine hw_istore_n X dd_Mo_suppose_84 (by decide) rfl ?_
          refine hw_iinc X (v := (x4 + 1)) dd_Mo_suppose_85 rfl rfl (by decide) rfl ?_
          refine hw_goto X (tgt := 35) dd_Mo_suppose_88 rfl ?_
          exact hK _ _ _ _ _ _ vc
        · replace vc := vc.2 hc
          refine hw_iconst X (v := 1) dd_Mo_suppose_79 (by decide) ?_
          refine hw_goto X (tgt := 84) dd_Mo_suppose_80 rfl ?_
          refine hw_istore_n X dd_Mo_suppose_84 (by decide) rfl ?_
          refine hw_iinc X (v := (x4 + 1)) dd_Mo_suppose_85 rfl rfl (by decide) rfl ?_
          refine hw_goto X (tgt := 35) dd_Mo_suppose_88 rfl ?_
          exact hK _ _ _ _ _ _ vc
def vc_Mo_suppose_94 (l : Launch) (g : hw_G) (R : Room) (K : Nat → Nat → Nat → List (Option Value) → List Value → hw_H → Prop) (PR : Nat → Nat → Int32 → hw_H → Prop) (k n : Nat) (a0 : Nat) (x1 : Int32) (x2 : Int32) (x3 : Int32) (x4 : Int32) (w : hw_H) : Prop := ∃ b_1 : Nat, hw_g w a0 8 9 (.ref b_1) ∧ (∃ x_2 : Int32, hw_ai g 0 w b_1 x1 x_2 ∧ (((x_2 ≤ x4) → (PR k n x3 w)) ∧ ((¬ x_2 ≤ x4) → (((¬ x3 = 0) → (PR k n x3 w)) ∧ ((x3 = 0) → (hw_o w a0 "ProofCourtModel" ∧ hw_ci l g R k n ym_Mo_literalOf (mw_Mo_literalOf) 3 [.ref a0, .int x1, .int x4] w (fun (k4 n5 : Nat) (x_6 : Int32) (w3 : hw_H) => ((x_6 = x2) → (K k4 n5 94 [some (.ref a0), some (.int x1), some (.int x2), some (.int x3), some (.int (x4 + 1))] [] w3)) ∧ ((¬ x_6 = x2) → (∃ b_7 : Nat, hw_g w3 a0 8 18 (.ref b_7) ∧ (hw_o w3 a0 "ProofCourtModel" ∧ hw_ci l g R k4 n5 ym_Mo_literalOf (mw_Mo_literalOf) 3 [.ref a0, .int x1, .int x4] w3 (fun (k9 n10 : Nat) (x_11 : Int32) (w8 : hw_H) => ∃ w12 : hw_H, hw_as g 2 w8 b_7 ((10 : Int32) - x_11) (vp_nar .boolean (1 : Int32)) w12 ∧ (K k9 n10 94 [some (.ref a0), some (.int x1), some (.int x2), some (.int x3), some (.int (x4 + 1))] [] w12))))))))))))
set_option maxHeartbeats 4000000 in
set_option maxRecDepth 100000 in
theorem sg_Mo_suppose_94 (X : hw_X p m c cb_Mo_suppose 5 s args (mw_Mo_suppose) "ProofCourtModel" g A) {K : Nat → Nat → Nat → List (Option Value) → List Value → hw_H → Prop} {PR : Nat → Nat → Int32 → hw_H → Prop} (hK : ∀ (k n pc : Nat) (lv : List (Option Value)) (st : List Value) (w : hw_H), K k n pc lv st w → hw_J p l e R s m args below meth c Q 5 g A k n pc lv st w) (rt : ∀ {k n pc : Nat} {lv : List (Option Value)} {x : Int32} {w : hw_H}, decode cb_Mo_suppose pc = .ok (.ireturn, 1) → PR k n x w → hw_J p l e R s m args below meth c Q 5 g A k n pc lv [.int x] w) {a0 : Nat} {x1 : Int32} {x2 : Int32} {x3 : Int32} {x4 : Int32} (vc : vc_Mo_suppose_94 l g R K PR k n a0 x1 x2 x3 x4 w) : hw_J p l e R s m args below meth c Q 5 g A k n 94 [some (.ref a0), some (.int x1), some (.int x2), some (.int x3), some (.int x4)] [] w := by
  unfold vc_Mo_suppose_94 at vc
  refine hw_iload X dd_Mo_suppose_94 rfl ?_
  refine hw_aload_n X (Or.inr ⟨_, rfl⟩) dd_Mo_suppose_96 rfl ?_
  obtain ⟨b_1, h9, vc⟩ := vc
  refine hw_get X (fe_Mo_19 X) h9 dd_Mo_suppose_97 ?_
  refine hw_iload_n X dd_Mo_suppose_100 rfl ?_
  obtain ⟨x_2, h9, vc⟩ := vc
  refine hw_iald X h9 dd_Mo_suppose_101 ?_
  refine hw_icmp_ge X (tgt := 142) dd_Mo_suppose_102 rfl (fun hc => ?_) (fun hc => ?_)
  · replace vc := vc.1 hc
    refine hw_iload_n X dd_Mo_suppose_142 rfl ?_
    exact rt dd_Mo_suppose_143 vc
  · replace vc := vc.2 hc
    refine hw_iload_n X dd_Mo_suppose_105 rfl ?_
    refine hw_if_ne X (tgt := 142) dd_Mo_suppose_106 rfl (fun hc => ?_) (fun hc => ?_)
    · replace vc := vc.1 hc
      refine hw_iload_n X dd_Mo_suppose_142 rfl ?_
      exact rt dd_Mo_suppose_143 vc
    · replace vc := vc.2 hc
      refine hw_aload_n X (Or.inr ⟨_, rfl⟩) dd_Mo_suppose_109 rfl ?_
      refine hw_iload_n X dd_Mo_suppose_110 rfl ?_
      refine hw_iload X dd_Mo_suppose_111 rfl ?_
      obtain ⟨hob, rm9, po9, hM9, hf9, hc9, vc⟩ := vc
      refine hw_callVi X (As := [.int x1, .int x4]) (ye_Mo_76 X) hM9 rfl hf9 hc9 hob (Nat.le_of_ble_eq_true rfl) rfl dd_Mo_suppose_113 (fun x_6 w3 hp => ?_)
      replace vc := vc x_6 w3 hp
      refine hw_iload_n X dd_Mo_suppose_116 rfl ?_
      refine hw_icmp_eq X (tgt := 136) dd_Mo_suppose_117 rfl (fun hc => ?_) (fun hc => ?_)
      · replace vc := vc.1 hc
        refine hw_iinc X (v := (x4 + 1)) dd_Mo_suppose_136 rfl rfl (by decide) rfl ?_
        refine hw_goto X (tgt := 94) dd_Mo_suppose_139 rfl ?_
        exact hK _ _ _ _ _ _ vc
      · replace vc := vc.2 hc
        refine hw_aload_n X (Or.inr ⟨_, rfl⟩) dd_Mo_suppose_120 rfl ?_
        obtain ⟨b_7, h9, vc⟩ := vc
        refine hw_get X (fe_Mo_31 X) h9 dd_Mo_suppose_121 ?_
        refine hw_bipush X (v := 10) dd_Mo_suppose_124 (by decide) ?_
        refine hw_aload_n X (Or.inr ⟨_, rfl⟩) dd_Mo_suppose_126 rfl ?_
        refine hw_iload_n X dd_Mo_suppose_127 rfl ?_
        refine hw_iload X dd_Mo_suppose_128 rfl ?_
        obtain ⟨hob, rm9, po9, hM9, hf9, hc9, vc⟩ := vc
        refine hw_callVi X (As := [.int x1, .int x4]) (ye_Mo_76 X) hM9 rfl hf9 hc9 hob (Nat.le_of_ble_eq_true rfl) rfl dd_Mo_suppose_130 (fun x_11 w8 hp => ?_)
        replace vc := vc x_11 w8 hp
        refine hw_isub X dd_Mo_suppose_133 ?_
        refine hw_iconst X (v := 1) dd_Mo_suppose_134 (by decide) ?_
        obtain ⟨w12, h9, vc⟩ := vc
        refine hw_zast X h9 dd_Mo_suppose_135 ?_
        refine hw_iinc X (v := (x4 + 1)) dd_Mo_suppose_136 rfl rfl (by decide) rfl ?_
        refine hw_goto X (tgt := 94) dd_Mo_suppose_139 rfl ?_
        exact hK _ _ _ _ _ _ vc
end
section
variable {p : Program} {l : Launch} {e : Env} {R : Room} {s : State} {m : MethodId} {args : Array Value} {below : List Frame} {meth : Method} {c : Code} {Q : State → Prop} {g : hw_G} {A : Nat → Prop} {k n : Nat} {w : hw_H}
def vc_Mo_refuted_0 (l : Launch) (g : hw_G) (R : Room) (K : Nat → Nat → Nat → List (Option Value) → List Value → hw_H → Prop) (PR : Nat → Nat → Int32 → hw_H → Prop) (k n : Nat) (a0 : Nat) (w : hw_H) : Prop := ∃ x_1 : Int32, hw_g w a0 8 15 (.int x_1) ∧ (PR k n x_1 w)
set_option maxHeartbeats 4000000 in
set_option maxRecDepth 100000 in
theorem sg_Mo_refuted_0 (X : hw_X p m c cb_Mo_refuted 1 s args (mw_Mo_refuted) "ProofCourtModel" g A) {K : Nat → Nat → Nat → List (Option Value) → List Value → hw_H → Prop} {PR : Nat → Nat → Int32 → hw_H → Prop} (hK : ∀ (k n pc : Nat) (lv : List (Option Value)) (st : List Value) (w : hw_H), K k n pc lv st w → hw_J p l e R s m args below meth c Q 1 g A k n pc lv st w) (rt : ∀ {k n pc : Nat} {lv : List (Option Value)} {x : Int32} {w : hw_H}, decode cb_Mo_refuted pc = .ok (.ireturn, 1) → PR k n x w → hw_J p l e R s m args below meth c Q 1 g A k n pc lv [.int x] w) {a0 : Nat} (vc : vc_Mo_refuted_0 l g R K PR k n a0 w) : hw_J p l e R s m args below meth c Q 1 g A k n 0 [some (.ref a0)] [] w := by
  unfold vc_Mo_refuted_0 at vc
  refine hw_aload_n X (Or.inr ⟨_, rfl⟩) dd_Mo_refuted_0 rfl ?_
  obtain ⟨x_1, h9, vc⟩ := vc
  refine hw_get X (fe_Mo_110 X) h9 dd_Mo_refuted_1 ?_
  exact rt dd_Mo_refuted_4 vc
end
