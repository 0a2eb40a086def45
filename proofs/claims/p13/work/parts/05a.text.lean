section
variable {p : Program} {l : Launch} {e : Env} {R : Room} {s : State} {m : MethodId} {args : Array Value} {below : List Frame} {meth : Method} {c : Code} {Q : State → Prop} {g : hw_G} {A : Nat → Prop} {k n : Nat} {w : hw_H}
def vc_Te_byteOf_0 (l : Launch) (g : hw_G) (R : Room) (K : Nat → Nat → Nat → List (Option Value) → List Value → hw_H → Prop) (PR : Nat → Nat → Int32 → hw_H → Prop) (k n : Nat) (x0 : Int32) (x1 : Int32) (w : hw_H) : Prop := PR k n ((x0 >>> (((8 : Int32) * x1) &&& 31)) &&& (255 : Int32)) w
set_option maxHeartbeats 4000000 in
set_option maxRecDepth 100000 in
theorem sg_Te_byteOf_0 (X : hw_X p m c cb_Te_byteOf 2 s args (mw_Te_byteOf) "ProofCourt$Text" g A) {K : Nat → Nat → Nat → List (Option Value) → List Value → hw_H → Prop} {PR : Nat → Nat → Int32 → hw_H → Prop} (hK : ∀ (k n pc : Nat) (lv : List (Option Value)) (st : List Value) (w : hw_H), K k n pc lv st w → hw_J p l e R s m args below meth c Q 2 g A k n pc lv st w) (rt : ∀ {k n pc : Nat} {lv : List (Option Value)} {x : Int32} {w : hw_H}, decode cb_Te_byteOf pc = .ok (.ireturn, 1) → PR k n x w → hw_J p l e R s m args below meth c Q 2 g A k n pc lv [.int x] w) {x0 : Int32} {x1 : Int32} (vc : vc_Te_byteOf_0 l g R K PR k n x0 x1 w) : hw_J p l e R s m args below meth c Q 2 g A k n 0 [some (.int x0), some (.int x1)] [] w := by
  unfold vc_Te_byteOf_0 at vc
  refine hw_iload_n X dd_Te_byteOf_0 rfl ?_
  refine hw_bipush X (v := 8) dd_Te_byteOf_1 (by decide) ?_
  refine hw_iload_n X dd_Te_byteOf_3 rfl ?_
  refine hw_imul X dd_Te_byteOf_4 ?_
  refine hw_ishr X dd_Te_byteOf_5 ?_
  refine hw_sipush X (v := 255) dd_Te_byteOf_6 (by decide) ?_
  refine hw_iand X dd_Te_byteOf_9 ?_
  exact rt dd_Te_byteOf_10 vc
end
section
variable {p : Program} {l : Launch} {e : Env} {R : Room} {s : State} {m : MethodId} {args : Array Value} {below : List Frame} {meth : Method} {c : Code} {Q : State → Prop} {g : hw_G} {A : Nat → Prop} {k n : Nat} {w : hw_H}
def vc_Te_isCharacter_0 (l : Launch) (g : hw_G) (R : Room) (K : Nat → Nat → Nat → List (Option Value) → List Value → hw_H → Prop) (PR : Nat → Nat → Int32 → hw_H → Prop) (k n : Nat) (x0 : Int32) (w : hw_H) : Prop := ((x0 = (10 : Int32)) → (PR k n (1 : Int32) w)) ∧ ((¬ x0 = (10 : Int32)) → (((x0 < (32 : Int32)) → (PR k n (0 : Int32) w)) ∧ ((¬ x0 < (32 : Int32)) → ((((126 : Int32) < x0) → (PR k n (0 : Int32) w)) ∧ ((¬ (126 : Int32) < x0) → (PR k n (1 : Int32) w))))))
set_option maxHeartbeats 4000000 in
set_option maxRecDepth 100000 in
theorem sg_Te_isCharacter_0 (X : hw_X p m c cb_Te_isCharacter 1 s args (mw_Te_isCharacter) "ProofCourt$Text" g A) {K : Nat → Nat → Nat → List (Option Value) → List Value → hw_H → Prop} {PR : Nat → Nat → Int32 → hw_H → Prop} (hK : ∀ (k n pc : Nat) (lv : List (Option Value)) (st : List Value) (w : hw_H), K k n pc lv st w → hw_J p l e R s m args below meth c Q 1 g A k n pc lv st w) (rt : ∀ {k n pc : Nat} {lv : List (Option Value)} {x : Int32} {w : hw_H}, decode cb_Te_isCharacter pc = .ok (.ireturn, 1) → PR k n x w → hw_J p l e R s m args below meth c Q 1 g A k n pc lv [.int x] w) {x0 : Int32} (vc : vc_Te_isCharacter_0 l g R K PR k n x0 w) : hw_J p l e R s m args below meth c Q 1 g A k n 0 [some (.int x0)] [] w := by
  unfold vc_Te_isCharacter_0 at vc
  refine hw_iload_n X dd_Te_isCharacter_0 rfl ?_
  refine hw_bipush X (v := 10) dd_Te_isCharacter_1 (by decide) ?_
  refine hw_icmp_eq X (tgt := 18) dd_Te_isCharacter_3 rfl (fun hc => ?_) (fun hc => ?_)
  · replace vc := vc.1 hc
    refine hw_iconst X (v := 1) dd_Te_isCharacter_18 (by decide) ?_
    refine hw_goto X (tgt := 23) dd_Te_isCharacter_19 rfl ?_
    exact rt dd_Te_isCharacter_23 vc
  · replace vc := vc.2 hc
    refine hw_iload_n X dd_Te_isCharacter_6 rfl ?_
    refine hw_bipush X (v := 32) dd_Te_isCharacter_7 (by decide) ?_
    refine hw_icmp_lt X (tgt := 22) dd_Te_isCharacter_9 rfl (fun hc => ?_) (fun hc => ?_)
    · replace vc := vc.1 hc
      refine hw_iconst X (v := 0) dd_Te_isCharacter_22 (by decide) ?_
      exact rt dd_Te_isCharacter_23 vc
    · replace vc := vc.2 hc
      refine hw_iload_n X dd_Te_isCharacter_12 rfl ?_
      refine hw_bipush X (v := 126) dd_Te_isCharacter_13 (by decide) ?_
      refine hw_icmp_gt X (tgt := 22) dd_Te_isCharacter_15 rfl (fun hc => ?_) (fun hc => ?_)
      · replace vc := vc.1 hc
        refine hw_iconst X (v := 0) dd_Te_isCharacter_22 (by decide) ?_
        exact rt dd_Te_isCharacter_23 vc
      · replace vc := vc.2 hc
        refine hw_iconst X (v := 1) dd_Te_isCharacter_18 (by decide) ?_
        refine hw_goto X (tgt := 23) dd_Te_isCharacter_19 rfl ?_
        exact rt dd_Te_isCharacter_23 vc
end
section
variable {p : Program} {l : Launch} {e : Env} {R : Room} {s : State} {m : MethodId} {args : Array Value} {below : List Frame} {meth : Method} {c : Code} {Q : State → Prop} {g : hw_G} {A : Nat → Prop} {k n : Nat} {w : hw_H}
def vc_Te_isBlank_0 (l : Launch) (g : hw_G) (R : Room) (K : Nat → Nat → Nat → List (Option Value) → List Value → hw_H → Prop) (PR : Nat → Nat → Int32 → hw_H → Prop) (k n : Nat) (x0 : Int32) (w : hw_H) : Prop := ((x0 = (32 : Int32)) → (PR k n (1 : Int32) w)) ∧ ((¬ x0 = (32 : Int32)) → (((¬ x0 = (10 : Int32)) → (PR k n (0 : Int32) w)) ∧ ((x0 = (10 : Int32)) → (PR k n (1 : Int32) w))))
set_option maxHeartbeats 4000000 in
set_option maxRecDepth 100000 in
theorem sg_Te_isBlank_0 (X : hw_X p m c cb_Te_isBlank 1 s args (mw_Te_isBlank) "ProofCourt$Text" g A) {K : Nat → Nat → Nat → List (Option Value) → List Value → hw_H → Prop} {PR : Nat → Nat → Int32 → hw_H → Prop} (hK : ∀ (k n pc : Nat) (lv : List (Option Value)) (st : List Value) (w : hw_H), K k n pc lv st w → hw_J p l e R s m args below meth c Q 1 g A k n pc lv st w) (rt : ∀ {k n pc : Nat} {lv : List (Option Value)} {x : Int32} {w : hw_H}, decode cb_Te_isBlank pc = .ok (.ireturn, 1) → PR k n x w → hw_J p l e R s m args below meth c Q 1 g A k n pc lv [.int x] w) {x0 : Int32} (vc : vc_Te_isBlank_0 l g R K PR k n x0 w) : hw_J p l e R s m args below meth c Q 1 g A k n 0 [some (.int x0)] [] w := by
  unfold vc_Te_isBlank_0 at vc
  refine hw_iload_n X dd_Te_isBlank_0 rfl ?_
  refine hw_bipush X (v := 32) dd_Te_isBlank_1 (by decide) ?_
  refine hw_icmp_eq X (tgt := 12) dd_Te_isBlank_3 rfl (fun hc => ?_) (fun hc => ?_)
  · replace vc := vc.1 hc
    refine hw_iconst X (v := 1) dd_Te_isBlank_12 (by decide) ?_
    refine hw_goto X (tgt := 17) dd_Te_isBlank_13 rfl ?_
    exact rt dd_Te_isBlank_17 vc
  · replace vc := vc.2 hc
    refine hw_iload_n X dd_Te_isBlank_6 rfl ?_
    refine hw_bipush X (v := 10) dd_Te_isBlank_7 (by decide) ?_
    refine hw_icmp_ne X (tgt := 16) dd_Te_isBlank_9 rfl (fun hc => ?_) (fun hc => ?_)
    · replace vc := vc.1 hc
      refine hw_iconst X (v := 0) dd_Te_isBlank_16 (by decide) ?_
      exact rt dd_Te_isBlank_17 vc
    · replace vc := vc.2 hc
      refine hw_iconst X (v := 1) dd_Te_isBlank_12 (by decide) ?_
      refine hw_goto X (tgt := 17) dd_Te_isBlank_13 rfl ?_
      exact rt dd_Te_isBlank_17 vc
end
section
variable {p : Program} {l : Launch} {e : Env} {R : Room} {s : State} {m : MethodId} {args : Array Value} {below : List Frame} {meth : Method} {c : Code} {Q : State → Prop} {g : hw_G} {A : Nat → Prop} {k n : Nat} {w : hw_H}
def vc_Te_append_0 (l : Launch) (g : hw_G) (R : Room) (K : Nat → Nat → Nat → List (Option Value) → List Value → hw_H → Prop) (PR : Nat → Nat → Int32 → hw_H → Prop) (k n : Nat) (a0 : Nat) (x1 : Int32) (x2 : Int32) (w : hw_H) : Prop := ((x2 < (1 : Int32)) → (PR k n (0 : Int32) w)) ∧ ((¬ x2 < (1 : Int32)) → ((((4 : Int32) < x2) → (PR k n (0 : Int32) w)) ∧ ((¬ (4 : Int32) < x2) → (∃ x_1 : Int32, hw_g w a0 0 1 (.int x_1) ∧ ((((x_1 + x2) ≤ (160 : Int32)) → (∀ y2 : Int32, y2 = (x2 - (1 : Int32)) → (K k n 28 [some (.ref a0), some (.int x1), some (.int x2), some (.int y2)] [] w))) ∧ ((¬ (x_1 + x2) ≤ (160 : Int32)) → (PR k n (0 : Int32) w)))))))
set_option maxHeartbeats 4000000 in
set_option maxRecDepth 100000 in
theorem sg_Te_append_0 (X : hw_X p m c cb_Te_append 4 s args (mw_Te_append) "ProofCourt$Text" g A) {K : Nat → Nat → Nat → List (Option Value) → List Value → hw_H → Prop} {PR : Nat → Nat → Int32 → hw_H → Prop} (hK : ∀ (k n pc : Nat) (lv : List (Option Value)) (st : List Value) (w : hw_H), K k n pc lv st w → hw_J p l e R s m args below meth c Q 4 g A k n pc lv st w) (rt : ∀ {k n pc : Nat} {lv : List (Option Value)} {x : Int32} {w : hw_H}, decode cb_Te_append pc = .ok (.ireturn, 1) → PR k n x w → hw_J p l e R s m args below meth c Q 4 g A k n pc lv [.int x] w) {a0 : Nat} {x1 : Int32} {x2 : Int32} (vc : vc_Te_append_0 l g R K PR k n a0 x1 x2 w) : hw_J p l e R s m args below meth c Q 4 g A k n 0 [some (.ref a0), some (.int x1), some (.int x2), none] [] w := by
  unfold vc_Te_append_0 at vc
  refine hw_iload_n X dd_Te_append_0 rfl ?_
  refine hw_iconst X (v := 1) dd_Te_append_1 (by decide) ?_
  refine hw_icmp_lt X (tgt := 22) dd_Te_append_2 rfl (fun hc => ?_) (fun hc => ?_)
  · replace vc := vc.1 hc
    refine hw_iconst X (v := 0) dd_Te_append_22 (by decide) ?_
    exact rt dd_Te_append_23 vc
  · replace vc := vc.2 hc
    refine hw_iload_n X dd_Te_append_5 rfl ?_
    refine hw_iconst X (v := 4) dd_Te_append_6 (by decide) ?_
    refine hw_icmp_gt X (tgt := 22) dd_Te_append_7 rfl (fun hc => ?_) (fun hc => ?_)
    · replace vc := vc.1 hc
      refine hw_iconst X (v := 0) dd_Te_append_22 (by decide) ?_
      exact rt dd_Te_append_23 vc
    · replace vc := vc.2 hc
      refine hw_aload_n X (Or.inr ⟨_, rfl⟩) dd_Te_append_10 rfl ?_
      obtain ⟨x_1, h9, vc⟩ := vc
      refine hw_get X (fe_Te_15 X) h9 dd_Te_append_11 ?_
      refine hw_iload_n X dd_Te_append_14 rfl ?_
      refine hw_iadd X dd_Te_append_15 ?_
      refine hw_sipush X (v := 160) dd_Te_append_16 (by decide) ?_
      refine hw_icmp_le X (tgt := 24) dd_Te_append_19 rfl (fun hc => ?_) (fun hc => ?_)
      · replace vc := vc.1 hc
        refine hw_iload_n X dd_Te_append_24 rfl ?_
        refine hw_iconst X (v := 1) dd_Te_append_25 (by decide) ?_
        refine hw_isub X dd_Te_append_26 ?_
        refine hw_top (fun y2 ey2 => ?_)
        replace vc := vc y2 ey2
        refine hw_istore_n X dd_Te_append_27 (by decide) rfl ?_
        exact hK _ _ _ _ _ _ vc
      · replace vc := vc.2 hc
        refine hw_iconst X (v := 0) dd_Te_append_22 (by decide) ?_
        exact rt dd_Te_append_23 vc
def vc_Te_append_28 (l : Launch) (g : hw_G) (R : Room) (K : Nat → Nat → Nat → List (Option Value) → List Value → hw_H → Prop) (PR : Nat → Nat → Int32 → hw_H → Prop) (k n : Nat) (a0 : Nat) (x1 : Int32) (x2 : Int32) (x3 : Int32) (w : hw_H) : Prop := ((x3 < 0) → (∀ y1 : Int32, y1 = (x2 - (1 : Int32)) → (K k n 55 [some (.ref a0), some (.int x1), some (.int x2), some (.int y1)] [] w))) ∧ ((¬ x3 < 0) → (hw_ci l g R k n ym_Te_byteOf (mw_Te_byteOf) 2 [.int x1, .int x3] w (fun (k3 n4 : Nat) (x_5 : Int32) (w2 : hw_H) => hw_ci l g R k3 n4 ym_Te_isCharacter (mw_Te_isCharacter) 1 [.int x_5] w2 (fun (k7 n8 : Nat) (x_9 : Int32) (w6 : hw_H) => ((¬ x_9 = 0) → (K k7 n8 28 [some (.ref a0), some (.int x1), some (.int x2), some (.int (x3 + (-1)))] [] w6)) ∧ ((x_9 = 0) → (PR k7 n8 (0 : Int32) w6))))))
set_option maxHeartbeats 4000000 in
set_option maxRecDepth 100000 in
theorem sg_Te_append_28 (X : hw_X p m c cb_Te_append 4 s args (mw_Te_append) "ProofCourt$Text" g A) {K : Nat → Nat → Nat → List (Option Value) → List Value → hw_H → Prop} {PR : Nat → Nat → Int32 → hw_H → Prop} (hK : ∀ (k n pc : Nat) (lv : List (Option Value)) (st : List Value) (w : hw_H), K k n pc lv st w → hw_J p l e R s m args below meth c Q 4 g A k n pc lv st w) (rt : ∀ {k n pc : Nat} {lv : List (Option Value)} {x : Int32} {w : hw_H}, decode cb_Te_append pc = .ok (.ireturn, 1) → PR k n x w → hw_J p l e R s m args below meth c Q 4 g A k n pc lv [.int x] w) {a0 : Nat} {x1 : Int32} {x2 : Int32} {x3 : Int32} (vc : vc_Te_append_28 l g R K PR k n a0 x1 x2 x3 w) : hw_J p l e R s m args below meth c Q 4 g A k n 28 [some (.ref a0), some (.int x1), some (.int x2), some (.int x3)] [] w := by
  unfold vc_Te_append_28 at vc
  refine hw_iload_n X dd_Te_append_28 rfl ?_
  refine hw_if_lt X (tgt := 51) dd_Te_append_29 rfl (fun hc => ?_) (fun hc => ?_)
  · replace vc := vc.1 hc
    refine hw_iload_n X dd_Te_append_51 rfl ?_
    refine hw_iconst X (v := 1) dd_Te_append_52 (by decide) ?_
    refine hw_isub X dd_Te_append_53 ?_
    refine hw_top (fun y1 ey1 => ?_)
    replace vc := vc y1 ey1
    refine hw_istore_n X dd_Te_append_54 (by decide) rfl ?_
    exact hK _ _ _ _ _ _ vc
  · replace vc := vc.2 hc
    refine hw_iload_n X dd_Te_append_32 rfl ?_
    refine hw_iload_n X dd_Te_append_33 rfl ?_
    obtain ⟨rm9, po9, hM9, hf9, hc9, vc⟩ := vc
    refine hw_callSi X (As := [.int x1, .int x3]) (ye_Te_19 X) hM9 rfl hf9 hc9 (Nat.le_of_ble_eq_true rfl) rfl dd_Te_append_34 (fun x_5 w2 hp => ?_)
    replace vc := vc x_5 w2 hp
    obtain ⟨rm9, po9, hM9, hf9, hc9, vc⟩ := vc
    refine hw_callSi X (As := [.int x_5]) (ye_Te_23 X) hM9 rfl hf9 hc9 (Nat.le_of_ble_eq_true rfl) rfl dd_Te_append_37 (fun x_9 w6 hp => ?_)
    replace vc := vc x_9 w6 hp
    refine hw_if_ne X (tgt := 45) dd_Te_append_40 rfl (fun hc => ?_) (fun hc => ?_)
    · replace vc := vc.1 hc
      refine hw_iinc X (v := (x3 + (-1))) dd_Te_append_45 rfl rfl (by decide) rfl ?_
      refine hw_goto X (tgt := 28) dd_Te_append_48 rfl ?_
      exact hK _ _ _ _ _ _ vc
    · replace vc := vc.2 hc
      refine hw_iconst X (v := 0) dd_Te_append_43 (by decide) ?_
      exact rt dd_Te_append_44 vc
def vc_Te_append_55 (l : Launch) (g : hw_G) (R : Room) (K : Nat → Nat → Nat → List (Option Value) → List Value → hw_H → Prop) (PR : Nat → Nat → Int32 → hw_H → Prop) (k n : Nat) (a0 : Nat) (x1 : Int32) (x2 : Int32) (x3 : Int32) (w : hw_H) : Prop := ((x3 < 0) → (PR k n (1 : Int32) w)) ∧ ((¬ x3 < 0) → (∃ b_1 : Nat, hw_g w a0 0 0 (.ref b_1) ∧ (∃ x_2 : Int32, hw_g w a0 0 1 (.int x_2) ∧ (hw_ci l g R k n ym_Te_byteOf (mw_Te_byteOf) 2 [.int x1, .int x3] w (fun (k4 n5 : Nat) (x_6 : Int32) (w3 : hw_H) => ∃ w7 : hw_H, hw_as g 1 w3 b_1 x_2 (vp_nar .char (((x_6).toUInt32 % 65536).toInt32)) w7 ∧ (∃ x_8 : Int32, hw_g w7 a0 0 1 (.int x_8) ∧ (∃ w9 : hw_H, hw_p w7 a0 0 1 (.int (x_8 + (1 : Int32))) w9 ∧ (K k4 n5 55 [some (.ref a0), some (.int x1), some (.int x2), some (.int (x3 + (-1)))] [] w9))))))))
set_option maxHeartbeats 4000000 in
set_option maxRecDepth 100000 in
theorem sg_Te_append_55 (X : hw_X p m c cb_Te_append 4 s args (mw_Te_append) "ProofCourt$Text" g A) {K : Nat → Nat → Nat → List (Option Value) → List Value → hw_H → Prop} {PR : Nat → Nat → Int32 → hw_H → Prop} (hK : ∀ (k n pc : Nat) (lv : List (Option Value)) (st : List Value) (w : hw_H), K k n pc lv st w → hw_J p l e R s m args below meth c Q 4 g A k n pc lv st w) (rt : ∀ {k n pc : Nat} {lv : List (Option Value)} {x : Int32} {w : hw_H}, decode cb_Te_append pc = .ok (.ireturn, 1) → PR k n x w → hw_J p l e R s m args below meth c Q 4 g A k n pc lv [.int x] w) {a0 : Nat} {x1 : Int32} {x2 : Int32} {x3 : Int32} (vc : vc_Te_append_55 l g R K PR k n a0 x1 x2 x3 w) : hw_J p l e R s m args below meth c Q 4 g A k n 55 [some (.ref a0), some (.int x1), some (.int x2), some (.int x3)] [] w := by
  unfold vc_Te_append_55 at vc
  refine hw_iload_n X dd_Te_append_55 rfl ?_
  refine hw_if_lt X (tgt := 90) dd_Te_append_56 rfl (fun hc => ?_) (fun hc => ?_)
  · replace vc := vc.1 hc
    refine hw_iconst X (v := 1) dd_Te_append_90 (by decide) ?_
    exact rt dd_Te_append_91 vc
  · replace vc := vc.2 hc
    refine hw_aload_n X (Or.inr ⟨_, rfl⟩) dd_Te_append_59 rfl ?_
    obtain ⟨b_1, h9, vc⟩ := vc
    refine hw_get X (fe_Te_9 X) h9 dd_Te_append_60 ?_
    refine hw_aload_n X (Or.inr ⟨_, rfl⟩) dd_Te_append_63 rfl ?_
    obtain ⟨x_2, h9, vc⟩ := vc
    refine hw_get X (fe_Te_15 X) h9 dd_Te_append_64 ?_
    refine hw_iload_n X dd_Te_append_67 rfl ?_
    refine hw_iload_n X dd_Te_append_68 rfl ?_
    obtain ⟨rm9, po9, hM9, hf9, hc9, vc⟩ := vc
    refine hw_callSi X (As := [.int x1, .int x3]) (ye_Te_19 X) hM9 rfl hf9 hc9 (Nat.le_of_ble_eq_true rfl) rfl dd_Te_append_69 (fun x_6 w3 hp => ?_)
    replace vc := vc x_6 w3 hp
    refine hw_i2c X dd_Te_append_72 ?_
    obtain ⟨w7, h9, vc⟩ := vc
    refine hw_cast X h9 dd_Te_append_73 ?_
    refine hw_aload_n X (Or.inr ⟨_, rfl⟩) dd_Te_append_74 rfl ?_
    refine hw_dup X rfl dd_Te_append_75 ?_
    obtain ⟨x_8, h9, vc⟩ := vc
    refine hw_get X (fe_Te_15 X) h9 dd_Te_append_76 ?_
    refine hw_iconst X (v := 1) dd_Te_append_79 (by decide) ?_
    refine hw_iadd X dd_Te_append_80 ?_
    obtain ⟨w9, h9, vc⟩ := vc
    refine hw_put X (fp_Te_15 X) rfl rfl h9 dd_Te_append_81 ?_
    refine hw_iinc X (v := (x3 + (-1))) dd_Te_append_84 rfl rfl (by decide) rfl ?_
    refine hw_goto X (tgt := 55) dd_Te_append_87 rfl ?_
    exact hK _ _ _ _ _ _ vc
end
section
variable {p : Program} {l : Launch} {e : Env} {R : Room} {s : State} {m : MethodId} {args : Array Value} {below : List Frame} {meth : Method} {c : Code} {Q : State → Prop} {g : hw_G} {A : Nat → Prop} {k n : Nat} {w : hw_H}
def vc_Te_clear_0 (l : Launch) (g : hw_G) (R : Room) (K : Nat → Nat → Nat → List (Option Value) → List Value → hw_H → Prop) (PR : Nat → Nat → hw_H → Prop) (k n : Nat) (a0 : Nat) (w : hw_H) : Prop := ∃ w1 : hw_H, hw_p w a0 0 1 (.int (0 : Int32)) w1 ∧ (PR k n w1)
set_option maxHeartbeats 4000000 in
set_option maxRecDepth 100000 in
theorem sg_Te_clear_0 (X : hw_X p m c cb_Te_clear 1 s args (mw_Te_clear) "ProofCourt$Text" g A) {K : Nat → Nat → Nat → List (Option Value) → List Value → hw_H → Prop} {PR : Nat → Nat → hw_H → Prop} (hK : ∀ (k n pc : Nat) (lv : List (Option Value)) (st : List Value) (w : hw_H), K k n pc lv st w → hw_J p l e R s m args below meth c Q 1 g A k n pc lv st w) (rt : ∀ {k n pc : Nat} {lv : List (Option Value)} {w : hw_H}, decode cb_Te_clear pc = .ok (.return_, 1) → PR k n w → hw_J p l e R s m args below meth c Q 1 g A k n pc lv [] w) {a0 : Nat} (vc : vc_Te_clear_0 l g R K PR k n a0 w) : hw_J p l e R s m args below meth c Q 1 g A k n 0 [some (.ref a0)] [] w := by
  unfold vc_Te_clear_0 at vc
  refine hw_aload_n X (Or.inr ⟨_, rfl⟩) dd_Te_clear_0 rfl ?_
  refine hw_iconst X (v := 0) dd_Te_clear_1 (by decide) ?_
  obtain ⟨w1, h9, vc⟩ := vc
  refine hw_put X (fp_Te_15 X) rfl rfl h9 dd_Te_clear_2 ?_
  exact rt dd_Te_clear_5 vc
end
section
variable {p : Program} {l : Launch} {e : Env} {R : Room} {s : State} {m : MethodId} {args : Array Value} {below : List Frame} {meth : Method} {c : Code} {Q : State → Prop} {g : hw_G} {A : Nat → Prop} {k n : Nat} {w : hw_H}
def vc_Te_standBehind_0 (l : Launch) (g : hw_G) (R : Room) (K : Nat → Nat → Nat → List (Option Value) → List Value → hw_H → Prop) (PR : Nat → Nat → hw_H → Prop) (k n : Nat) (a0 : Nat) (x1 : Int32) (w : hw_H) : Prop := ∃ w1 : hw_H, hw_p w a0 0 3 (.int x1) w1 ∧ (K k n 5 [some (.ref a0), some (.int x1)] [] w1)
set_option maxHeartbeats 4000000 in
set_option maxRecDepth 100000 in
theorem sg_Te_standBehind_0 (X : hw_X p m c cb_Te_standBehind 2 s args (mw_Te_standBehind) "ProofCourt$Text" g A) {K : Nat → Nat → Nat → List (Option Value) → List Value → hw_H → Prop} {PR : Nat → Nat → hw_H → Prop} (hK : ∀ (k n pc : Nat) (lv : List (Option Value)) (st : List Value) (w : hw_H), K k n pc lv st w → hw_J p l e R s m args below meth c Q 2 g A k n pc lv st w) (rt : ∀ {k n pc : Nat} {lv : List (Option Value)} {w : hw_H}, decode cb_Te_standBehind pc = .ok (.return_, 1) → PR k n w → hw_J p l e R s m args below meth c Q 2 g A k n pc lv [] w) {a0 : Nat} {x1 : Int32} (vc : vc_Te_standBehind_0 l g R K PR k n a0 x1 w) : hw_J p l e R s m args below meth c Q 2 g A k n 0 [some (.ref a0), some (.int x1)] [] w := by
  unfold vc_Te_standBehind_0 at vc
  refine hw_aload_n X (Or.inr ⟨_, rfl⟩) dd_Te_standBehind_0 rfl ?_
  refine hw_iload_n X dd_Te_standBehind_1 rfl ?_
  obtain ⟨w1, h9, vc⟩ := vc
  refine hw_put X (fp_Te_49 X) rfl rfl h9 dd_Te_standBehind_2 ?_
  exact hK _ _ _ _ _ _ vc
def vc_Te_standBehind_5 (l : Launch) (g : hw_G) (R : Room) (K : Nat → Nat → Nat → List (Option Value) → List Value → hw_H → Prop) (PR : Nat → Nat → hw_H → Prop) (k n : Nat) (a0 : Nat) (x1 : Int32) (w : hw_H) : Prop := ∃ x_1 : Int32, hw_g w a0 0 3 (.int x_1) ∧ (∃ x_2 : Int32, hw_g w a0 0 1 (.int x_2) ∧ (((x_2 ≤ x_1) → (∃ x_3 : Int32, hw_g w a0 0 3 (.int x_3) ∧ (∃ w4 : hw_H, hw_p w a0 0 4 (.int x_3) w4 ∧ (K k n 52 [some (.ref a0), some (.int x1)] [] w4)))) ∧ ((¬ x_2 ≤ x_1) → (∃ b_5 : Nat, hw_g w a0 0 0 (.ref b_5) ∧ (∃ x_6 : Int32, hw_g w a0 0 3 (.int x_6) ∧ (∃ x_7 : Int32, hw_ai g 1 w b_5 x_6 x_7 ∧ (hw_ci l g R k n ym_Te_isBlank (mw_Te_isBlank) 1 [.int x_7] w (fun (k9 n10 : Nat) (x_11 : Int32) (w8 : hw_H) => ((x_11 = 0) → (∃ x_12 : Int32, hw_g w8 a0 0 3 (.int x_12) ∧ (∃ w13 : hw_H, hw_p w8 a0 0 4 (.int x_12) w13 ∧ (K k9 n10 52 [some (.ref a0), some (.int x1)] [] w13)))) ∧ ((¬ x_11 = 0) → (∃ x_14 : Int32, hw_g w8 a0 0 3 (.int x_14) ∧ (∃ w15 : hw_H, hw_p w8 a0 0 3 (.int (x_14 + (1 : Int32))) w15 ∧ (K k9 n10 5 [some (.ref a0), some (.int x1)] [] w15))))))))))))
set_option maxHeartbeats 4000000 in
set_option maxRecDepth 100000 in
theorem sg_Te_standBehind_5 (X : hw_X p m c cb_Te_standBehind 2 s args (mw_Te_standBehind) "ProofCourt$Text" g A) {K : Nat → Nat → Nat → List (Option Value) → List Value → hw_H → Prop} {PR : Nat → Nat → hw_H → Prop} (hK : ∀ (k n pc : Nat) (lv : List (Option Value)) (st : List Value) (w : hw_H), K k n pc lv st w → hw_J p l e R s m args below meth c Q 2 g A k n pc lv st w) (rt : ∀ {k n pc : Nat} {lv : List (Option Value)} {w : hw_H}, decode cb_Te_standBehind pc = .ok (.return_, 1) → PR k n w → hw_J p l e R s m args below meth c Q 2 g A k n pc lv [] w) {a0 : Nat} {x1 : Int32} (vc : vc_Te_standBehind_5 l g R K PR k n a0 x1 w) : hw_J p l e R s m args below meth c Q 2 g A k n 5 [some (.ref a0), some (.int x1)] [] w := by
  unfold vc_Te_standBehind_5 at vc
  refine hw_aload_n X (Or.inr ⟨_, rfl⟩) dd_Te_standBehind_5 rfl ?_
  obtain ⟨x_1, h9, vc⟩ := vc
  refine hw_get X (fe_Te_49 X) h9 dd_Te_standBehind_6 ?_
  refine hw_aload_n X (Or.inr ⟨_, rfl⟩) dd_Te_standBehind_9 rfl ?_
  obtain ⟨x_2, h9, vc⟩ := vc
  refine hw_get X (fe_Te_15 X) h9 dd_Te_standBehind_10 ?_
  refine hw_icmp_ge X (tgt := 44) dd_Te_standBehind_13 rfl (fun hc => ?_) (fun hc => ?_)
  · replace vc := vc.1 hc
    refine hw_aload_n X (Or.inr ⟨_, rfl⟩) dd_Te_standBehind_44 rfl ?_
    refine hw_aload_n X (Or.inr ⟨_, rfl⟩) dd_Te_standBehind_45 rfl ?_
    obtain ⟨x_3, h9, vc⟩ := vc
    refine hw_get X (fe_Te_49 X) h9 dd_Te_standBehind_46 ?_
    obtain ⟨w4, h9, vc⟩ := vc
    refine hw_put X (fp_Te_31 X) rfl rfl h9 dd_Te_standBehind_49 ?_
    exact hK _ _ _ _ _ _ vc
  · replace vc := vc.2 hc
    refine hw_aload_n X (Or.inr ⟨_, rfl⟩) dd_Te_standBehind_16 rfl ?_
    obtain ⟨b_5, h9, vc⟩ := vc
    refine hw_get X (fe_Te_9 X) h9 dd_Te_standBehind_17 ?_
    refine hw_aload_n X (Or.inr ⟨_, rfl⟩) dd_Te_standBehind_20 rfl ?_
    obtain ⟨x_6, h9, vc⟩ := vc
    refine hw_get X (fe_Te_49 X) h9 dd_Te_standBehind_21 ?_
    obtain ⟨x_7, h9, vc⟩ := vc
    refine hw_cald X h9 dd_Te_standBehind_24 ?_
    obtain ⟨rm9, po9, hM9, hf9, hc9, vc⟩ := vc
    refine hw_callSi X (As := [.int x_7]) (ye_Te_71 X) hM9 rfl hf9 hc9 (Nat.le_of_ble_eq_true rfl) rfl dd_Te_standBehind_25 (fun x_11 w8 hp => ?_)
    replace vc := vc x_11 w8 hp
    refine hw_if_eq X (tgt := 44) dd_Te_standBehind_28 rfl (fun hc => ?_) (fun hc => ?_)
    · replace vc := vc.1 hc
      refine hw_aload_n X (Or.inr ⟨_, rfl⟩) dd_Te_standBehind_44 rfl ?_
      refine hw_aload_n X (Or.inr ⟨_, rfl⟩) dd_Te_standBehind_45 rfl ?_
      obtain ⟨x_12, h9, vc⟩ := vc
      refine hw_get X (fe_Te_49 X) h9 dd_Te_standBehind_46 ?_
      obtain ⟨w13, h9, vc⟩ := vc
      refine hw_put X (fp_Te_31 X) rfl rfl h9 dd_Te_standBehind_49 ?_
      exact hK _ _ _ _ _ _ vc
    · replace vc := vc.2 hc
      refine hw_aload_n X (Or.inr ⟨_, rfl⟩) dd_Te_standBehind_31 rfl ?_
      refine hw_dup X rfl dd_Te_standBehind_32 ?_
      obtain ⟨x_14, h9, vc⟩ := vc
      refine hw_get X (fe_Te_49 X) h9 dd_Te_standBehind_33 ?_
      refine hw_iconst X (v := 1) dd_Te_standBehind_36 (by decide) ?_
      refine hw_iadd X dd_Te_standBehind_37 ?_
      obtain ⟨w15, h9, vc⟩ := vc
      refine hw_put X (fp_Te_49 X) rfl rfl h9 dd_Te_standBehind_38 ?_
      refine hw_goto X (tgt := 5) dd_Te_standBehind_41 rfl ?_
      exact hK _ _ _ _ _ _ vc
def vc_Te_standBehind_52 (l : Launch) (g : hw_G) (R : Room) (K : Nat → Nat → Nat → List (Option Value) → List Value → hw_H → Prop) (PR : Nat → Nat → hw_H → Prop) (k n : Nat) (a0 : Nat) (x1 : Int32) (w : hw_H) : Prop := ∃ x_1 : Int32, hw_g w a0 0 4 (.int x_1) ∧ (∃ x_2 : Int32, hw_g w a0 0 1 (.int x_2) ∧ (((x_2 ≤ x_1) → (PR k n w)) ∧ ((¬ x_2 ≤ x_1) → (∃ b_3 : Nat, hw_g w a0 0 0 (.ref b_3) ∧ (∃ x_4 : Int32, hw_g w a0 0 4 (.int x_4) ∧ (∃ x_5 : Int32, hw_ai g 1 w b_3 x_4 x_5 ∧ (hw_ci l g R k n ym_Te_isBlank (mw_Te_isBlank) 1 [.int x_5] w (fun (k7 n8 : Nat) (x_9 : Int32) (w6 : hw_H) => ((¬ x_9 = 0) → (PR k7 n8 w6)) ∧ ((x_9 = 0) → (∃ x_10 : Int32, hw_g w6 a0 0 4 (.int x_10) ∧ (∃ w11 : hw_H, hw_p w6 a0 0 4 (.int (x_10 + (1 : Int32))) w11 ∧ (K k7 n8 52 [some (.ref a0), some (.int x1)] [] w11))))))))))))
set_option maxHeartbeats 4000000 in
set_option maxRecDepth 100000 in
theorem sg_Te_standBehind_52 (X : hw_X p m c cb_Te_standBehind 2 s args (mw_Te_standBehind) "ProofCourt$Text" g A) {K : Nat → Nat → Nat → List (Option Value) → List Value → hw_H → Prop} {PR : Nat → Nat → hw_H → Prop} (hK : ∀ (k n pc : Nat) (lv : List (Option Value)) (st : List Value) (w : hw_H), K k n pc lv st w → hw_J p l e R s m args below meth c Q 2 g A k n pc lv st w) (rt : ∀ {k n pc : Nat} {lv : List (Option Value)} {w : hw_H}, decode cb_Te_standBehind pc = .ok (.return_, 1) → PR k n w → hw_J p l e R s m args below meth c Q 2 g A k n pc lv [] w) {a0 : Nat} {x1 : Int32} (vc : vc_Te_standBehind_52 l g R K PR k n a0 x1 w) : hw_J p l e R s m args below meth c Q 2 g A k n 52 [some (.ref a0), some (.int x1)] [] w := by
  unfold vc_Te_standBehind_52 at vc
  refine hw_aload_n X (Or.inr ⟨_, rfl⟩) dd_Te_standBehind_52 rfl ?_
  obtain ⟨x_1, h9, vc⟩ := vc
  refine hw_get X (fe_Te_31 X) h9 dd_Te_standBehind_53 ?_
  refine hw_aload_n X (Or.inr ⟨_, rfl⟩) dd_Te_standBehind_56 rfl ?_
  obtain ⟨x_2, h9, vc⟩ := vc
  refine hw_get X (fe_Te_15 X) h9 dd_Te_standBehind_57 ?_
  refine hw_icmp_ge X (tgt := 91) dd_Te_standBehind_60 rfl (fun hc => ?_) (fun hc => ?_)
  · replace vc := vc.1 hc
    exact rt dd_Te_standBehind_91 vc
  · replace vc := vc.2 hc
    refine hw_aload_n X (Or.inr ⟨_, rfl⟩) dd_Te_standBehind_63 rfl ?_
    obtain ⟨b_3, h9, vc⟩ := vc
    refine hw_get X (fe_Te_9 X) h9 dd_Te_standBehind_64 ?_
    refine hw_aload_n X (Or.inr ⟨_, rfl⟩) dd_Te_standBehind_67 rfl ?_
    obtain ⟨x_4, h9, vc⟩ := vc
    refine hw_get X (fe_Te_31 X) h9 dd_Te_standBehind_68 ?_
    obtain ⟨x_5, h9, vc⟩ := vc
    refine hw_cald X h9 dd_Te_standBehind_71 ?_
    obtain ⟨rm9, po9, hM9, hf9, hc9, vc⟩ := vc
    refine hw_callSi X (As := [.int x_5]) (ye_Te_71 X) hM9 rfl hf9 hc9 (Nat.le_of_ble_eq_true rfl) rfl dd_Te_standBehind_72 (fun x_9 w6 hp => ?_)
    replace vc := vc x_9 w6 hp
    refine hw_if_ne X (tgt := 91) dd_Te_standBehind_75 rfl (fun hc => ?_) (fun hc => ?_)
    · replace vc := vc.1 hc
      exact rt dd_Te_standBehind_91 vc
    · replace vc := vc.2 hc
      refine hw_aload_n X (Or.inr ⟨_, rfl⟩) dd_Te_standBehind_78 rfl ?_
      refine hw_dup X rfl dd_Te_standBehind_79 ?_
      obtain ⟨x_10, h9, vc⟩ := vc
      refine hw_get X (fe_Te_31 X) h9 dd_Te_standBehind_80 ?_
      refine hw_iconst X (v := 1) dd_Te_standBehind_83 (by decide) ?_
      refine hw_iadd X dd_Te_standBehind_84 ?_
      obtain ⟨w11, h9, vc⟩ := vc
      refine hw_put X (fp_Te_31 X) rfl rfl h9 dd_Te_standBehind_85 ?_
      refine hw_goto X (tgt := 52) dd_Te_standBehind_88 rfl ?_
      exact hK _ _ _ _ _ _ vc
end
section
variable {p : Program} {l : Launch} {e : Env} {R : Room} {s : State} {m : MethodId} {args : Array Value} {below : List Frame} {meth : Method} {c : Code} {Q : State → Prop} {g : hw_G} {A : Nat → Prop} {k n : Nat} {w : hw_H}
def vc_Te_beginsLine_0 (l : Launch) (g : hw_G) (R : Room) (K : Nat → Nat → Nat → List (Option Value) → List Value → hw_H → Prop) (PR : Nat → Nat → Int32 → hw_H → Prop) (k n : Nat) (a0 : Nat) (w : hw_H) : Prop := ∃ x_1 : Int32, hw_g w a0 0 3 (.int x_1) ∧ (∀ y2 : Int32, y2 = (x_1 - (1 : Int32)) → (K k n 7 [some (.ref a0), some (.int y2)] [] w))
set_option maxHeartbeats 4000000 in
set_option maxRecDepth 100000 in
theorem sg_Te_beginsLine_0 (X : hw_X p m c cb_Te_beginsLine 2 s args (mw_Te_beginsLine) "ProofCourt$Text" g A) {K : Nat → Nat → Nat → List (Option Value) → List Value → hw_H → Prop} {PR : Nat → Nat → Int32 → hw_H → Prop} (hK : ∀ (k n pc : Nat) (lv : List (Option Value)) (st : List Value) (w : hw_H), K k n pc lv st w → hw_J p l e R s m args below meth c Q 2 g A k n pc lv st w) (rt : ∀ {k n pc : Nat} {lv : List (Option Value)} {x : Int32} {w : hw_H}, decode cb_Te_beginsLine pc = .ok (.ireturn, 1) → PR k n x w → hw_J p l e R s m args below meth c Q 2 g A k n pc lv [.int x] w) {a0 : Nat} (vc : vc_Te_beginsLine_0 l g R K PR k n a0 w) : hw_J p l e R s m args below meth c Q 2 g A k n 0 [some (.ref a0), none] [] w := by
  unfold vc_Te_beginsLine_0 at vc
  refine hw_aload_n X (Or.inr ⟨_, rfl⟩) dd_Te_beginsLine_0 rfl ?_
  obtain ⟨x_1, h9, vc⟩ := vc
  refine hw_get X (fe_Te_49 X) h9 dd_Te_beginsLine_1 ?_
  refine hw_iconst X (v := 1) dd_Te_beginsLine_4 (by decide) ?_
  refine hw_isub X dd_Te_beginsLine_5 ?_
  refine hw_top (fun y2 ey2 => ?_)
  replace vc := vc y2 ey2
  refine hw_istore_n X dd_Te_beginsLine_6 (by decide) rfl ?_
  exact hK _ _ _ _ _ _ vc
def vc_Te_beginsLine_7 (l : Launch) (g : hw_G) (R : Room) (K : Nat → Nat → Nat → List (Option Value) → List Value → hw_H → Prop) (PR : Nat → Nat → Int32 → hw_H → Prop) (k n : Nat) (a0 : Nat) (x1 : Int32) (w : hw_H) : Prop := ((x1 < 0) → (((x1 < 0) → (PR k n (1 : Int32) w)) ∧ ((¬ x1 < 0) → (∃ b_1 : Nat, hw_g w a0 0 0 (.ref b_1) ∧ (∃ x_2 : Int32, hw_ai g 1 w b_1 x1 x_2 ∧ (((¬ x_2 = (10 : Int32)) → (PR k n (0 : Int32) w)) ∧ ((x_2 = (10 : Int32)) → (PR k n (1 : Int32) w)))))))) ∧ ((¬ x1 < 0) → (∃ b_3 : Nat, hw_g w a0 0 0 (.ref b_3) ∧ (∃ x_4 : Int32, hw_ai g 1 w b_3 x1 x_4 ∧ (((¬ x_4 = (32 : Int32)) → (((x1 < 0) → (PR k n (1 : Int32) w)) ∧ ((¬ x1 < 0) → (∃ b_5 : Nat, hw_g w a0 0 0 (.ref b_5) ∧ (∃ x_6 : Int32, hw_ai g 1 w b_5 x1 x_6 ∧ (((¬ x_6 = (10 : Int32)) → (PR k n (0 : Int32) w)) ∧ ((x_6 = (10 : Int32)) → (PR k n (1 : Int32) w)))))))) ∧ ((x_4 = (32 : Int32)) → (K k n 7 [some (.ref a0), some (.int (x1 + (-1)))] [] w))))))
set_option maxHeartbeats 4000000 in
set_option maxRecDepth 100000 in
theorem sg_Te_beginsLine_7 (X : hw_X p m c cb_Te_beginsLine 2 s args (mw_Te_beginsLine) "ProofCourt$Text" g A) {K : Nat → Nat → Nat → List (Option Value) → List Value → hw_H → Prop} {PR : Nat → Nat → Int32 → hw_H → Prop} (hK : ∀ (k n pc : Nat) (lv : List (Option Value)) (st : List Value) (w : hw_H), K k n pc lv st w → hw_J p l e R s m args below meth c Q 2 g A k n pc lv st w) (rt : ∀ {k n pc : Nat} {lv : List (Option Value)} {x : Int32} {w : hw_H}, decode cb_Te_beginsLine pc = .ok (.ireturn, 1) → PR k n x w → hw_J p l e R s m args below meth c Q 2 g A k n pc lv [.int x] w) {a0 : Nat} {x1 : Int32} (vc : vc_Te_beginsLine_7 l g R K PR k n a0 x1 w) : hw_J p l e R s m args below meth c Q 2 g A k n 7 [some (.ref a0), some (.int x1)] [] w := by
  unfold vc_Te_beginsLine_7 at vc
  refine hw_iload_n X dd_Te_beginsLine_7 rfl ?_
  refine hw_if_lt X (tgt := 28) dd_Te_beginsLine_8 rfl (fun hc => ?_) (fun hc => ?_)
  · replace vc := vc.1 hc
    refine hw_iload_n X dd_Te_beginsLine_28 rfl ?_
    refine hw_if_lt X (tgt := 43) dd_Te_beginsLine_29 rfl (fun hc => ?_) (fun hc => ?_)
    · replace vc := vc.1 hc
      refine hw_iconst X (v := 1) dd_Te_beginsLine_43 (by decide) ?_
      refine hw_goto X (tgt := 48) dd_Te_beginsLine_44 rfl ?_
      exact rt dd_Te_beginsLine_48 vc
    · replace vc := vc.2 hc
      refine hw_aload_n X (Or.inr ⟨_, rfl⟩) dd_Te_beginsLine_32 rfl ?_
      obtain ⟨b_1, h9, vc⟩ := vc
      refine hw_get X (fe_Te_9 X) h9 dd_Te_beginsLine_33 ?_
      refine hw_iload_n X dd_Te_beginsLine_36 rfl ?_
      obtain ⟨x_2, h9, vc⟩ := vc
      refine hw_cald X h9 dd_Te_beginsLine_37 ?_
      refine hw_bipush X (v := 10) dd_Te_beginsLine_38 (by decide) ?_
      refine hw_icmp_ne X (tgt := 47) dd_Te_beginsLine_40 rfl (fun hc => ?_) (fun hc => ?_)
      · replace vc := vc.1 hc
        refine hw_iconst X (v := 0) dd_Te_beginsLine_47 (by decide) ?_
        exact rt dd_Te_beginsLine_48 vc
      · replace vc := vc.2 hc
        refine hw_iconst X (v := 1) dd_Te_beginsLine_43 (by decide) ?_
        refine hw_goto X (tgt := 48) dd_Te_beginsLine_44 rfl ?_
        exact rt dd_Te_beginsLine_48 vc
  · replace vc := vc.2 hc
    refine hw_aload_n X (Or.inr ⟨_, rfl⟩) dd_Te_beginsLine_11 rfl ?_
    obtain ⟨b_3, h9, vc⟩ := vc
    refine hw_get X (fe_Te_9 X) h9 dd_Te_beginsLine_12 ?_
    refine hw_iload_n X dd_Te_beginsLine_15 rfl ?_
    obtain ⟨x_4, h9, vc⟩ := vc
    refine hw_cald X h9 dd_Te_beginsLine_16 ?_
    refine hw_bipush X (v := 32) dd_Te_beginsLine_17 (by decide) ?_
    refine hw_icmp_ne X (tgt := 28) dd_Te_beginsLine_19 rfl (fun hc => ?_) (fun hc => ?_)
    · replace vc := vc.1 hc
      refine hw_iload_n X dd_Te_beginsLine_28 rfl ?_
      refine hw_if_lt X (tgt := 43) dd_Te_beginsLine_29 rfl (fun hc => ?_) (fun hc => ?_)
      · replace vc := vc.1 hc
        refine hw_iconst X (v := 1) dd_Te_beginsLine_43 (by decide) ?_
        refine hw_goto X (tgt := 48) dd_Te_beginsLine_44 rfl ?_
        exact rt dd_Te_beginsLine_48 vc
      · replace vc := vc.2 hc
        refine hw_aload_n X (Or.inr ⟨_, rfl⟩) dd_Te_beginsLine_32 rfl ?_
        obtain ⟨b_5, h9, vc⟩ := vc
        refine hw_get X (fe_Te_9 X) h9 dd_Te_beginsLine_33 ?_
        refine hw_iload_n X dd_Te_beginsLine_36 rfl ?_
        obtain ⟨x_6, h9, vc⟩ := vc
        refine hw_cald X h9 dd_Te_beginsLine_37 ?_
        refine hw_bipush X (v := 10) dd_Te_beginsLine_38 (by decide) ?_
        refine hw_icmp_ne X (tgt := 47) dd_Te_beginsLine_40 rfl (fun hc => ?_) (fun hc => ?_)
        · replace vc := vc.1 hc
          refine hw_iconst X (v := 0) dd_Te_beginsLine_47 (by decide) ?_
          exact rt dd_Te_beginsLine_48 vc
        · replace vc := vc.2 hc
          refine hw_iconst X (v := 1) dd_Te_beginsLine_43 (by decide) ?_
          refine hw_goto X (tgt := 48) dd_Te_beginsLine_44 rfl ?_
          exact rt dd_Te_beginsLine_48 vc
    · replace vc := vc.2 hc
      refine hw_iinc X (v := (x1 + (-1))) dd_Te_beginsLine_22 rfl rfl (by decide) rfl ?_
      refine hw_goto X (tgt := 7) dd_Te_beginsLine_25 rfl ?_
      exact hK _ _ _ _ _ _ vc
end
section
variable {p : Program} {l : Launch} {e : Env} {R : Room} {s : State} {m : MethodId} {args : Array Value} {below : List Frame} {meth : Method} {c : Code} {Q : State → Prop} {g : hw_G} {A : Nat → Prop} {k n : Nat} {w : hw_H}
def vc_Te_lineEnd_0 (l : Launch) (g : hw_G) (R : Room) (K : Nat → Nat → Nat → List (Option Value) → List Value → hw_H → Prop) (PR : Nat → Nat → Int32 → hw_H → Prop) (k n : Nat) (a0 : Nat) (w : hw_H) : Prop := ∃ x_1 : Int32, hw_g w a0 0 3 (.int x_1) ∧ (K k n 5 [some (.ref a0), some (.int x_1)] [] w)
set_option maxHeartbeats 4000000 in
set_option maxRecDepth 100000 in
theorem sg_Te_lineEnd_0 (X : hw_X p m c cb_Te_lineEnd 2 s args (mw_Te_lineEnd) "ProofCourt$Text" g A) {K : Nat → Nat → Nat → List (Option Value) → List Value → hw_H → Prop} {PR : Nat → Nat → Int32 → hw_H → Prop} (hK : ∀ (k n pc : Nat) (lv : List (Option Value)) (st : List Value) (w : hw_H), K k n pc lv st w → hw_J p l e R s m args below meth c Q 2 g A k n pc lv st w) (rt : ∀ {k n pc : Nat} {lv : List (Option Value)} {x : Int32} {w : hw_H}, decode cb_Te_lineEnd pc = .ok (.ireturn, 1) → PR k n x w → hw_J p l e R s m args below meth c Q 2 g A k n pc lv [.int x] w) {a0 : Nat} (vc : vc_Te_lineEnd_0 l g R K PR k n a0 w) : hw_J p l e R s m args below meth c Q 2 g A k n 0 [some (.ref a0), none] [] w := by
  unfold vc_Te_lineEnd_0 at vc
  refine hw_aload_n X (Or.inr ⟨_, rfl⟩) dd_Te_lineEnd_0 rfl ?_
  obtain ⟨x_1, h9, vc⟩ := vc
  refine hw_get X (fe_Te_49 X) h9 dd_Te_lineEnd_1 ?_
  refine hw_istore_n X dd_Te_lineEnd_4 (by decide) rfl ?_
  exact hK _ _ _ _ _ _ vc
def vc_Te_lineEnd_5 (l : Launch) (g : hw_G) (R : Room) (K : Nat → Nat → Nat → List (Option Value) → List Value → hw_H → Prop) (PR : Nat → Nat → Int32 → hw_H → Prop) (k n : Nat) (a0 : Nat) (x1 : Int32) (w : hw_H) : Prop := ∃ x_1 : Int32, hw_g w a0 0 1 (.int x_1) ∧ (((x_1 ≤ x1) → (PR k n x1 w)) ∧ ((¬ x_1 ≤ x1) → (∃ b_2 : Nat, hw_g w a0 0 0 (.ref b_2) ∧ (∃ x_3 : Int32, hw_ai g 1 w b_2 x1 x_3 ∧ (((x_3 = (10 : Int32)) → (PR k n x1 w)) ∧ ((¬ x_3 = (10 : Int32)) → (K k n 5 [some (.ref a0), some (.int (x1 + 1))] [] w)))))))
set_option maxHeartbeats 4000000 in
set_option maxRecDepth 100000 in
theorem sg_Te_lineEnd_5 (X : hw_X p m c cb_Te_lineEnd 2 s args (mw_Te_lineEnd) "ProofCourt$Text" g A) {K : Nat → Nat → Nat → List (Option Value) → List Value → hw_H → Prop} {PR : Nat → Nat → Int32 → hw_H → Prop} (hK : ∀ (k n pc : Nat) (lv : List (Option Value)) (st : List Value) (w : hw_H), K k n pc lv st w → hw_J p l e R s m args below meth c Q 2 g A k n pc lv st w) (rt : ∀ {k n pc : Nat} {lv : List (Option Value)} {x : Int32} {w : hw_H}, decode cb_Te_lineEnd pc = .ok (.ireturn, 1) → PR k n x w → hw_J p l e R s m args below meth c Q 2 g A k n pc lv [.int x] w) {a0 : Nat} {x1 : Int32} (vc : vc_Te_lineEnd_5 l g R K PR k n a0 x1 w) : hw_J p l e R s m args below meth c Q 2 g A k n 5 [some (.ref a0), some (.int x1)] [] w := by
  unfold vc_Te_lineEnd_5 at vc
  refine hw_iload_n X dd_Te_lineEnd_5 rfl ?_
  refine hw_aload_n X (Or.inr ⟨_, rfl⟩) dd_Te_lineEnd_6 rfl ?_
  obtain ⟨x_1, h9, vc⟩ := vc
  refine hw_get X (fe_Te_15 X) h9 dd_Te_lineEnd_7 ?_
  refine hw_icmp_ge X (tgt := 30) dd_Te_lineEnd_10 rfl (fun hc => ?_) (fun hc => ?_)
  · replace vc := vc.1 hc
    refine hw_iload_n X dd_Te_lineEnd_30 rfl ?_
    exact rt dd_Te_lineEnd_31 vc
  · replace vc := vc.2 hc
    refine hw_aload_n X (Or.inr ⟨_, rfl⟩) dd_Te_lineEnd_13 rfl ?_
    obtain ⟨b_2, h9, vc⟩ := vc
    refine hw_get X (fe_Te_9 X) h9 dd_Te_lineEnd_14 ?_
    refine hw_iload_n X dd_Te_lineEnd_17 rfl ?_
    obtain ⟨x_3, h9, vc⟩ := vc
    refine hw_cald X h9 dd_Te_lineEnd_18 ?_
    refine hw_bipush X (v := 10) dd_Te_lineEnd_19 (by decide) ?_
    refine hw_icmp_eq X (tgt := 30) dd_Te_lineEnd_21 rfl (fun hc => ?_) (fun hc => ?_)
    · replace vc := vc.1 hc
      refine hw_iload_n X dd_Te_lineEnd_30 rfl ?_
      exact rt dd_Te_lineEnd_31 vc
    · replace vc := vc.2 hc
      refine hw_iinc X (v := (x1 + 1)) dd_Te_lineEnd_24 rfl rfl (by decide) rfl ?_
      refine hw_goto X (tgt := 5) dd_Te_lineEnd_27 rfl ?_
      exact hK _ _ _ _ _ _ vc
end
section
variable {p : Program} {l : Launch} {e : Env} {R : Room} {s : State} {m : MethodId} {args : Array Value} {below : List Frame} {meth : Method} {c : Code} {Q : State → Prop} {g : hw_G} {A : Nat → Prop} {k n : Nat} {w : hw_H}
def vc_Te_isAtEnd_0 (l : Launch) (g : hw_G) (R : Room) (K : Nat → Nat → Nat → List (Option Value) → List Value → hw_H → Prop) (PR : Nat → Nat → Int32 → hw_H → Prop) (k n : Nat) (a0 : Nat) (w : hw_H) : Prop := ∃ x_1 : Int32, hw_g w a0 0 3 (.int x_1) ∧ (∃ x_2 : Int32, hw_g w a0 0 1 (.int x_2) ∧ (((x_1 < x_2) → (PR k n (0 : Int32) w)) ∧ ((¬ x_1 < x_2) → (PR k n (1 : Int32) w))))
set_option maxHeartbeats 4000000 in
set_option maxRecDepth 100000 in
theorem sg_Te_isAtEnd_0 (X : hw_X p m c cb_Te_isAtEnd 1 s args (mw_Te_isAtEnd) "ProofCourt$Text" g A) {K : Nat → Nat → Nat → List (Option Value) → List Value → hw_H → Prop} {PR : Nat → Nat → Int32 → hw_H → Prop} (hK : ∀ (k n pc : Nat) (lv : List (Option Value)) (st : List Value) (w : hw_H), K k n pc lv st w → hw_J p l e R s m args below meth c Q 1 g A k n pc lv st w) (rt : ∀ {k n pc : Nat} {lv : List (Option Value)} {x : Int32} {w : hw_H}, decode cb_Te_isAtEnd pc = .ok (.ireturn, 1) → PR k n x w → hw_J p l e R s m args below meth c Q 1 g A k n pc lv [.int x] w) {a0 : Nat} (vc : vc_Te_isAtEnd_0 l g R K PR k n a0 w) : hw_J p l e R s m args below meth c Q 1 g A k n 0 [some (.ref a0)] [] w := by
  unfold vc_Te_isAtEnd_0 at vc
  refine hw_aload_n X (Or.inr ⟨_, rfl⟩) dd_Te_isAtEnd_0 rfl ?_
  obtain ⟨x_1, h9, vc⟩ := vc
  refine hw_get X (fe_Te_49 X) h9 dd_Te_isAtEnd_1 ?_
  refine hw_aload_n X (Or.inr ⟨_, rfl⟩) dd_Te_isAtEnd_4 rfl ?_
  obtain ⟨x_2, h9, vc⟩ := vc
  refine hw_get X (fe_Te_15 X) h9 dd_Te_isAtEnd_5 ?_
  refine hw_icmp_lt X (tgt := 15) dd_Te_isAtEnd_8 rfl (fun hc => ?_) (fun hc => ?_)
  · replace vc := vc.1 hc
    refine hw_iconst X (v := 0) dd_Te_isAtEnd_15 (by decide) ?_
    exact rt dd_Te_isAtEnd_16 vc
  · replace vc := vc.2 hc
    refine hw_iconst X (v := 1) dd_Te_isAtEnd_11 (by decide) ?_
    refine hw_goto X (tgt := 16) dd_Te_isAtEnd_12 rfl ?_
    exact rt dd_Te_isAtEnd_16 vc
end
section
variable {p : Program} {l : Launch} {e : Env} {R : Room} {s : State} {m : MethodId} {args : Array Value} {below : List Frame} {meth : Method} {c : Code} {Q : State → Prop} {g : hw_G} {A : Nat → Prop} {k n : Nat} {w : hw_H}
def vc_Te_isWord_0 (l : Launch) (g : hw_G) (R : Room) (K : Nat → Nat → Nat → List (Option Value) → List Value → hw_H → Prop) (PR : Nat → Nat → Int32 → hw_H → Prop) (k n : Nat) (a0 : Nat) (i1 : Nat) (w : hw_H) : Prop := ∃ x_1 : Int32, hw_g w a0 0 4 (.int x_1) ∧ (∃ x_2 : Int32, hw_g w a0 0 3 (.int x_2) ∧ (i1 < hw_sN ∧ hw_ci l g R k n ym_St_length (mw_St_length) 1 [.ref (g.2.2.1 i1)] w (fun (k4 n5 : Nat) (x_6 : Int32) (w3 : hw_H) => (((x_1 - x_2) = x_6) → (∃ x_7 : Int32, hw_g w3 a0 0 3 (.int x_7) ∧ (K k4 n5 23 [some (.ref a0), some (.ref (g.2.2.1 i1)), some (.int x_7)] [] w3))) ∧ ((¬ (x_1 - x_2) = x_6) → (PR k4 n5 (0 : Int32) w3)))))
set_option maxHeartbeats 4000000 in
set_option maxRecDepth 100000 in
theorem sg_Te_isWord_0 (X : hw_X p m c cb_Te_isWord 3 s args (mw_Te_isWord) "ProofCourt$Text" g A) {K : Nat → Nat → Nat → List (Option Value) → List Value → hw_H → Prop} {PR : Nat → Nat → Int32 → hw_H → Prop} (hK : ∀ (k n pc : Nat) (lv : List (Option Value)) (st : List Value) (w : hw_H), K k n pc lv st w → hw_J p l e R s m args below meth c Q 3 g A k n pc lv st w) (rt : ∀ {k n pc : Nat} {lv : List (Option Value)} {x : Int32} {w : hw_H}, decode cb_Te_isWord pc = .ok (.ireturn, 1) → PR k n x w → hw_J p l e R s m args below meth c Q 3 g A k n pc lv [.int x] w) {a0 : Nat} {i1 : Nat} (vc : vc_Te_isWord_0 l g R K PR k n a0 i1 w) : hw_J p l e R s m args below meth c Q 3 g A k n 0 [some (.ref a0), some (.ref (g.2.2.1 i1)), none] [] w := by
  unfold vc_Te_isWord_0 at vc
  refine hw_aload_n X (Or.inr ⟨_, rfl⟩) dd_Te_isWord_0 rfl ?_
  obtain ⟨x_1, h9, vc⟩ := vc
  refine hw_get X (fe_Te_31 X) h9 dd_Te_isWord_1 ?_
  refine hw_aload_n X (Or.inr ⟨_, rfl⟩) dd_Te_isWord_4 rfl ?_
  obtain ⟨x_2, h9, vc⟩ := vc
  refine hw_get X (fe_Te_49 X) h9 dd_Te_isWord_5 ?_
  refine hw_isub X dd_Te_isWord_8 ?_
  refine hw_aload_n X (Or.inr ⟨_, rfl⟩) dd_Te_isWord_9 rfl ?_
  obtain ⟨hob, rm9, po9, hM9, hf9, hc9, vc⟩ := vc
  refine hw_callVsi X (As := []) (ye_Te_52 X) hM9 rfl hf9 hc9 hob (Nat.le_of_ble_eq_true rfl) rfl dd_Te_isWord_10 (fun x_6 w3 hp => ?_)
  replace vc := vc x_6 w3 hp
  refine hw_icmp_eq X (tgt := 18) dd_Te_isWord_13 rfl (fun hc => ?_) (fun hc => ?_)
  · replace vc := vc.1 hc
    refine hw_aload_n X (Or.inr ⟨_, rfl⟩) dd_Te_isWord_18 rfl ?_
    obtain ⟨x_7, h9, vc⟩ := vc
    refine hw_get X (fe_Te_49 X) h9 dd_Te_isWord_19 ?_
    refine hw_istore_n X dd_Te_isWord_22 (by decide) rfl ?_
    exact hK _ _ _ _ _ _ vc
  · replace vc := vc.2 hc
    refine hw_iconst X (v := 0) dd_Te_isWord_16 (by decide) ?_
    exact rt dd_Te_isWord_17 vc
def vc_Te_isWord_23 (l : Launch) (g : hw_G) (R : Room) (K : Nat → Nat → Nat → List (Option Value) → List Value → hw_H → Prop) (PR : Nat → Nat → Int32 → hw_H → Prop) (k n : Nat) (a0 : Nat) (i1 : Nat) (x2 : Int32) (w : hw_H) : Prop := ∃ x_1 : Int32, hw_g w a0 0 4 (.int x_1) ∧ (((x_1 ≤ x2) → (PR k n (1 : Int32) w)) ∧ ((¬ x_1 ≤ x2) → (∃ b_2 : Nat, hw_g w a0 0 0 (.ref b_2) ∧ (∃ x_3 : Int32, hw_ai g 1 w b_2 x2 x_3 ∧ (∃ x_4 : Int32, hw_g w a0 0 3 (.int x_4) ∧ (i1 < hw_sN ∧ hw_ci l g R k n ym_St_charAt (mw_St_charAt) 2 [.ref (g.2.2.1 i1), .int (x2 - x_4)] w (fun (k6 n7 : Nat) (x_8 : Int32) (w5 : hw_H) => ((x_3 = x_8) → (K k6 n7 23 [some (.ref a0), some (.ref (g.2.2.1 i1)), some (.int (x2 + 1))] [] w5)) ∧ ((¬ x_3 = x_8) → (PR k6 n7 (0 : Int32) w5)))))))))
set_option maxHeartbeats 4000000 in
set_option maxRecDepth 100000 in
theorem sg_Te_isWord_23 (X : hw_X p m c cb_Te_isWord 3 s args (mw_Te_isWord) "ProofCourt$Text" g A) {K : Nat → Nat → Nat → List (Option Value) → List Value → hw_H → Prop} {PR : Nat → Nat → Int32 → hw_H → Prop} (hK : ∀ (k n pc : Nat) (lv : List (Option Value)) (st : List Value) (w : hw_H), K k n pc lv st w → hw_J p l e R s m args below meth c Q 3 g A k n pc lv st w) (rt : ∀ {k n pc : Nat} {lv : List (Option Value)} {x : Int32} {w : hw_H}, decode cb_Te_isWord pc = .ok (.ireturn, 1) → PR k n x w → hw_J p l e R s m args below meth c Q 3 g A k n pc lv [.int x] w) {a0 : Nat} {i1 : Nat} {x2 : Int32} (vc : vc_Te_isWord_23 l g R K PR k n a0 i1 x2 w) : hw_J p l e R s m args below meth c Q 3 g A k n 23 [some (.ref a0), some (.ref (g.2.2.1 i1)), some (.int x2)] [] w := by
  unfold vc_Te_isWord_23 at vc
  refine hw_iload_n X dd_Te_isWord_23 rfl ?_
  refine hw_aload_n X (Or.inr ⟨_, rfl⟩) dd_Te_isWord_24 rfl ?_
  obtain ⟨x_1, h9, vc⟩ := vc
  refine hw_get X (fe_Te_31 X) h9 dd_Te_isWord_25 ?_
  refine hw_icmp_ge X (tgt := 58) dd_Te_isWord_28 rfl (fun hc => ?_) (fun hc => ?_)
  · replace vc := vc.1 hc
    refine hw_iconst X (v := 1) dd_Te_isWord_58 (by decide) ?_
    exact rt dd_Te_isWord_59 vc
  · replace vc := vc.2 hc
    refine hw_aload_n X (Or.inr ⟨_, rfl⟩) dd_Te_isWord_31 rfl ?_
    obtain ⟨b_2, h9, vc⟩ := vc
    refine hw_get X (fe_Te_9 X) h9 dd_Te_isWord_32 ?_
    refine hw_iload_n X dd_Te_isWord_35 rfl ?_
    obtain ⟨x_3, h9, vc⟩ := vc
    refine hw_cald X h9 dd_Te_isWord_36 ?_
    refine hw_aload_n X (Or.inr ⟨_, rfl⟩) dd_Te_isWord_37 rfl ?_
    refine hw_iload_n X dd_Te_isWord_38 rfl ?_
    refine hw_aload_n X (Or.inr ⟨_, rfl⟩) dd_Te_isWord_39 rfl ?_
    obtain ⟨x_4, h9, vc⟩ := vc
    refine hw_get X (fe_Te_49 X) h9 dd_Te_isWord_40 ?_
    refine hw_isub X dd_Te_isWord_43 ?_
    obtain ⟨hob, rm9, po9, hM9, hf9, hc9, vc⟩ := vc
    refine hw_callVsi X (As := [.int (x2 - x_4)]) (ye_Te_56 X) hM9 rfl hf9 hc9 hob (Nat.le_of_ble_eq_true rfl) rfl dd_Te_isWord_44 (fun x_8 w5 hp => ?_)
    replace vc := vc x_8 w5 hp
    refine hw_icmp_eq X (tgt := 52) dd_Te_isWord_47 rfl (fun hc => ?_) (fun hc => ?_)
    · replace vc := vc.1 hc
      refine hw_iinc X (v := (x2 + 1)) dd_Te_isWord_52 rfl rfl (by decide) rfl ?_
      refine hw_goto X (tgt := 23) dd_Te_isWord_55 rfl ?_
      exact hK _ _ _ _ _ _ vc
    · replace vc := vc.2 hc
      refine hw_iconst X (v := 0) dd_Te_isWord_50 (by decide) ?_
      exact rt dd_Te_isWord_51 vc
end
section
variable {p : Program} {l : Launch} {e : Env} {R : Room} {s : State} {m : MethodId} {args : Array Value} {below : List Frame} {meth : Method} {c : Code} {Q : State → Prop} {g : hw_G} {A : Nat → Prop} {k n : Nat} {w : hw_H}
def vc_Te_isRemark_0 (l : Launch) (g : hw_G) (R : Room) (K : Nat → Nat → Nat → List (Option Value) → List Value → hw_H → Prop) (PR : Nat → Nat → Int32 → hw_H → Prop) (k n : Nat) (a0 : Nat) (w : hw_H) : Prop := ∃ x_1 : Int32, hw_g w a0 0 2 (.int x_1) ∧ (((x_1 = 0) → (PR k n (0 : Int32) w)) ∧ ((¬ x_1 = 0) → (hw_o w a0 "ProofCourt$Text" ∧ hw_ci l g R k n ym_Te_isWord (mw_Te_isWord) 3 [.ref a0, .ref (g.2.2.1 0)] w (fun (k3 n4 : Nat) (x_5 : Int32) (w2 : hw_H) => ((x_5 = 0) → (PR k3 n4 (0 : Int32) w2)) ∧ ((¬ x_5 = 0) → (hw_o w2 a0 "ProofCourt$Text" ∧ hw_ci l g R k3 n4 ym_Te_beginsLine (mw_Te_beginsLine) 2 [.ref a0] w2 (fun (k7 n8 : Nat) (x_9 : Int32) (w6 : hw_H) => ((x_9 = 0) → (PR k7 n8 (0 : Int32) w6)) ∧ ((¬ x_9 = 0) → (PR k7 n8 (1 : Int32) w6)))))))))
set_option maxHeartbeats 4000000 in
set_option maxRecDepth 100000 in
theorem sg_Te_isRemark_0 (X : hw_X p m c cb_Te_isRemark 1 s args (mw_Te_isRemark) "ProofCourt$Text" g A) {K : Nat → Nat → Nat → List (Option Value) → List Value → hw_H → Prop} {PR : Nat → Nat → Int32 → hw_H → Prop} (hK : ∀ (k n pc : Nat) (lv : List (Option Value)) (st : List Value) (w : hw_H), K k n pc lv st w → hw_J p l e R s m args below meth c Q 1 g A k n pc lv st w) (rt : ∀ {k n pc : Nat} {lv : List (Option Value)} {x : Int32} {w : hw_H}, decode cb_Te_isRemark pc = .ok (.ireturn, 1) → PR k n x w → hw_J p l e R s m args below meth c Q 1 g A k n pc lv [.int x] w) {a0 : Nat} (vc : vc_Te_isRemark_0 l g R K PR k n a0 w) : hw_J p l e R s m args below meth c Q 1 g A k n 0 [some (.ref a0)] [] w := by
  unfold vc_Te_isRemark_0 at vc
  refine hw_aload_n X (Or.inr ⟨_, rfl⟩) dd_Te_isRemark_0 rfl ?_
  obtain ⟨x_1, h9, vc⟩ := vc
  refine hw_get X (fe_Te_27 X) h9 dd_Te_isRemark_1 ?_
  refine hw_if_eq X (tgt := 27) dd_Te_isRemark_4 rfl (fun hc => ?_) (fun hc => ?_)
  · replace vc := vc.1 hc
    refine hw_iconst X (v := 0) dd_Te_isRemark_27 (by decide) ?_
    exact rt dd_Te_isRemark_28 vc
  · replace vc := vc.2 hc
    refine hw_aload_n X (Or.inr ⟨_, rfl⟩) dd_Te_isRemark_7 rfl ?_
    refine hw_ldcS X (i := 0) (tx := "c") (hw_sR_at 0 rfl) dd_Te_isRemark_8 ?_
    obtain ⟨hob, rm9, po9, hM9, hf9, hc9, vc⟩ := vc
    refine hw_callVi X (As := [.ref (g.2.2.1 0)]) (ye_Te_63 X) hM9 rfl hf9 hc9 hob (Nat.le_of_ble_eq_true rfl) rfl dd_Te_isRemark_10 (fun x_5 w2 hp => ?_)
    replace vc := vc x_5 w2 hp
    refine hw_if_eq X (tgt := 27) dd_Te_isRemark_13 rfl (fun hc => ?_) (fun hc => ?_)
    · replace vc := vc.1 hc
      refine hw_iconst X (v := 0) dd_Te_isRemark_27 (by decide) ?_
      exact rt dd_Te_isRemark_28 vc
    · replace vc := vc.2 hc
      refine hw_aload_n X (Or.inr ⟨_, rfl⟩) dd_Te_isRemark_16 rfl ?_
      obtain ⟨hob, rm9, po9, hM9, hf9, hc9, vc⟩ := vc
      refine hw_callVi X (As := []) (ye_Te_77 X) hM9 rfl hf9 hc9 hob (Nat.le_of_ble_eq_true rfl) rfl dd_Te_isRemark_17 (fun x_9 w6 hp => ?_)
      replace vc := vc x_9 w6 hp
      refine hw_if_eq X (tgt := 27) dd_Te_isRemark_20 rfl (fun hc => ?_) (fun hc => ?_)
      · replace vc := vc.1 hc
        refine hw_iconst X (v := 0) dd_Te_isRemark_27 (by decide) ?_
        exact rt dd_Te_isRemark_28 vc
      · replace vc := vc.2 hc
        refine hw_iconst X (v := 1) dd_Te_isRemark_23 (by decide) ?_
        refine hw_goto X (tgt := 28) dd_Te_isRemark_24 rfl ?_
        exact rt dd_Te_isRemark_28 vc
end
section
variable {p : Program} {l : Launch} {e : Env} {R : Room} {s : State} {m : MethodId} {args : Array Value} {below : List Frame} {meth : Method} {c : Code} {Q : State → Prop} {g : hw_G} {A : Nat → Prop} {k n : Nat} {w : hw_H}
def vc_Te_advance_0 (l : Launch) (g : hw_G) (R : Room) (K : Nat → Nat → Nat → List (Option Value) → List Value → hw_H → Prop) (PR : Nat → Nat → hw_H → Prop) (k n : Nat) (a0 : Nat) (w : hw_H) : Prop := ∃ x_1 : Int32, hw_g w a0 0 4 (.int x_1) ∧ (hw_o w a0 "ProofCourt$Text" ∧ hw_cv l g R k n ym_Te_standBehind (mw_Te_standBehind) 2 [.ref a0, .int x_1] w (fun (k3 n4 : Nat) (w2 : hw_H) => K k3 n4 10 [some (.ref a0), some (.int (0 : Int32))] [] w2))
set_option maxHeartbeats 4000000 in
set_option maxRecDepth 100000 in
theorem sg_Te_advance_0 (X : hw_X p m c cb_Te_advance 2 s args (mw_Te_advance) "ProofCourt$Text" g A) {K : Nat → Nat → Nat → List (Option Value) → List Value → hw_H → Prop} {PR : Nat → Nat → hw_H → Prop} (hK : ∀ (k n pc : Nat) (lv : List (Option Value)) (st : List Value) (w : hw_H), K k n pc lv st w → hw_J p l e R s m args below meth c Q 2 g A k n pc lv st w) (rt : ∀ {k n pc : Nat} {lv : List (Option Value)} {w : hw_H}, decode cb_Te_advance pc = .ok (.return_, 1) → PR k n w → hw_J p l e R s m args below meth c Q 2 g A k n pc lv [] w) {a0 : Nat} (vc : vc_Te_advance_0 l g R K PR k n a0 w) : hw_J p l e R s m args below meth c Q 2 g A k n 0 [some (.ref a0), none] [] w := by
  unfold vc_Te_advance_0 at vc
  refine hw_aload_n X (Or.inr ⟨_, rfl⟩) dd_Te_advance_0 rfl ?_
  refine hw_aload_n X (Or.inr ⟨_, rfl⟩) dd_Te_advance_1 rfl ?_
  obtain ⟨x_1, h9, vc⟩ := vc
  refine hw_get X (fe_Te_31 X) h9 dd_Te_advance_2 ?_
  obtain ⟨hob, rm9, po9, hM9, hf9, hc9, vc⟩ := vc
  refine hw_callVv X (As := [.int x_1]) (ye_Te_37 X) hM9 rfl hf9 hc9 hob (Nat.le_of_ble_eq_true rfl) rfl dd_Te_advance_5 (fun w2 hp => ?_)
  replace vc := vc w2 hp
  refine hw_iconst X (v := 0) dd_Te_advance_8 (by decide) ?_
  refine hw_istore_n X dd_Te_advance_9 (by decide) rfl ?_
  exact hK _ _ _ _ _ _ vc
def vc_Te_advance_10 (l : Launch) (g : hw_G) (R : Room) (K : Nat → Nat → Nat → List (Option Value) → List Value → hw_H → Prop) (PR : Nat → Nat → hw_H → Prop) (k n : Nat) (a0 : Nat) (x1 : Int32) (w : hw_H) : Prop := ∃ x_1 : Int32, hw_g w a0 0 1 (.int x_1) ∧ (((x_1 ≤ x1) → (PR k n w)) ∧ ((¬ x_1 ≤ x1) → (hw_o w a0 "ProofCourt$Text" ∧ hw_ci l g R k n ym_Te_isRemark (mw_Te_isRemark) 1 [.ref a0] w (fun (k3 n4 : Nat) (x_5 : Int32) (w2 : hw_H) => ((x_5 = 0) → (PR k3 n4 w2)) ∧ ((¬ x_5 = 0) → (hw_o w2 a0 "ProofCourt$Text" ∧ hw_ci l g R k3 n4 ym_Te_lineEnd (mw_Te_lineEnd) 2 [.ref a0] w2 (fun (k7 n8 : Nat) (x_9 : Int32) (w6 : hw_H) => hw_o w6 a0 "ProofCourt$Text" ∧ hw_cv l g R k7 n8 ym_Te_standBehind (mw_Te_standBehind) 2 [.ref a0, .int x_9] w6 (fun (k11 n12 : Nat) (w10 : hw_H) => K k11 n12 10 [some (.ref a0), some (.int (x1 + 1))] [] w10))))))))
set_option maxHeartbeats 4000000 in
set_option maxRecDepth 100000 in
theorem sg_Te_advance_10 (X : hw_X p m c cb_Te_advance 2 s args (mw_Te_advance) "ProofCourt$Text" g A) {K : Nat → Nat → Nat → List (Option Value) → List Value → hw_H → Prop} {PR : Nat → Nat → hw_H → Prop} (hK : ∀ (k n pc : Nat) (lv : List (Option Value)) (st : List Value) (w : hw_H), K k n pc lv st w → hw_J p l e R s m args below meth c Q 2 g A k n pc lv st w) (rt : ∀ {k n pc : Nat} {lv : List (Option Value)} {w : hw_H}, decode cb_Te_advance pc = .ok (.return_, 1) → PR k n w → hw_J p l e R s m args below meth c Q 2 g A k n pc lv [] w) {a0 : Nat} {x1 : Int32} (vc : vc_Te_advance_10 l g R K PR k n a0 x1 w) : hw_J p l e R s m args below meth c Q 2 g A k n 10 [some (.ref a0), some (.int x1)] [] w := by
  unfold vc_Te_advance_10 at vc
  refine hw_iload_n X dd_Te_advance_10 rfl ?_
  refine hw_aload_n X (Or.inr ⟨_, rfl⟩) dd_Te_advance_11 rfl ?_
  obtain ⟨x_1, h9, vc⟩ := vc
  refine hw_get X (fe_Te_15 X) h9 dd_Te_advance_12 ?_
  refine hw_icmp_ge X (tgt := 39) dd_Te_advance_15 rfl (fun hc => ?_) (fun hc => ?_)
  · replace vc := vc.1 hc
    exact rt dd_Te_advance_39 vc
  · replace vc := vc.2 hc
    refine hw_aload_n X (Or.inr ⟨_, rfl⟩) dd_Te_advance_18 rfl ?_
    obtain ⟨hob, rm9, po9, hM9, hf9, hc9, vc⟩ := vc
    refine hw_callVi X (As := []) (ye_Te_41 X) hM9 rfl hf9 hc9 hob (Nat.le_of_ble_eq_true rfl) rfl dd_Te_advance_19 (fun x_5 w2 hp => ?_)
    replace vc := vc x_5 w2 hp
    refine hw_if_eq X (tgt := 39) dd_Te_advance_22 rfl (fun hc => ?_) (fun hc => ?_)
    · replace vc := vc.1 hc
      exact rt dd_Te_advance_39 vc
    · replace vc := vc.2 hc
      refine hw_aload_n X (Or.inr ⟨_, rfl⟩) dd_Te_advance_25 rfl ?_
      refine hw_aload_n X (Or.inr ⟨_, rfl⟩) dd_Te_advance_26 rfl ?_
      obtain ⟨hob, rm9, po9, hM9, hf9, hc9, vc⟩ := vc
      refine hw_callVi X (As := []) (ye_Te_45 X) hM9 rfl hf9 hc9 hob (Nat.le_of_ble_eq_true rfl) rfl dd_Te_advance_27 (fun x_9 w6 hp => ?_)
      replace vc := vc x_9 w6 hp
      obtain ⟨hob, rm9, po9, hM9, hf9, hc9, vc⟩ := vc
      refine hw_callVv X (As := [.int x_9]) (ye_Te_37 X) hM9 rfl hf9 hc9 hob (Nat.le_of_ble_eq_true rfl) rfl dd_Te_advance_30 (fun w10 hp => ?_)
      replace vc := vc w10 hp
      refine hw_iinc X (v := (x1 + 1)) dd_Te_advance_33 rfl rfl (by decide) rfl ?_
      refine hw_goto X (tgt := 10) dd_Te_advance_36 rfl ?_
      exact hK _ _ _ _ _ _ vc
end
section
variable {p : Program} {l : Launch} {e : Env} {R : Room} {s : State} {m : MethodId} {args : Array Value} {below : List Frame} {meth : Method} {c : Code} {Q : State → Prop} {g : hw_G} {A : Nat → Prop} {k n : Nat} {w : hw_H}
def vc_Te_rewind_0 (l : Launch) (g : hw_G) (R : Room) (K : Nat → Nat → Nat → List (Option Value) → List Value → hw_H → Prop) (PR : Nat → Nat → hw_H → Prop) (k n : Nat) (a0 : Nat) (x1 : Int32) (w : hw_H) : Prop := ∃ w1 : hw_H, hw_p w a0 0 2 (.int x1) w1 ∧ hw_b x1 ∧ (∃ w2 : hw_H, hw_p w1 a0 0 4 (.int (0 : Int32)) w2 ∧ (hw_o w2 a0 "ProofCourt$Text" ∧ hw_cv l g R k n ym_Te_advance (mw_Te_advance) 2 [.ref a0] w2 (fun (k4 n5 : Nat) (w3 : hw_H) => PR k4 n5 w3)))
set_option maxHeartbeats 4000000 in
set_option maxRecDepth 100000 in
theorem sg_Te_rewind_0 (X : hw_X p m c cb_Te_rewind 2 s args (mw_Te_rewind) "ProofCourt$Text" g A) {K : Nat → Nat → Nat → List (Option Value) → List Value → hw_H → Prop} {PR : Nat → Nat → hw_H → Prop} (hK : ∀ (k n pc : Nat) (lv : List (Option Value)) (st : List Value) (w : hw_H), K k n pc lv st w → hw_J p l e R s m args below meth c Q 2 g A k n pc lv st w) (rt : ∀ {k n pc : Nat} {lv : List (Option Value)} {w : hw_H}, decode cb_Te_rewind pc = .ok (.return_, 1) → PR k n w → hw_J p l e R s m args below meth c Q 2 g A k n pc lv [] w) {a0 : Nat} {x1 : Int32} (vc : vc_Te_rewind_0 l g R K PR k n a0 x1 w) : hw_J p l e R s m args below meth c Q 2 g A k n 0 [some (.ref a0), some (.int x1)] [] w := by
  unfold vc_Te_rewind_0 at vc
  refine hw_aload_n X (Or.inr ⟨_, rfl⟩) dd_Te_rewind_0 rfl ?_
  refine hw_iload_n X dd_Te_rewind_1 rfl ?_
  obtain ⟨w1, h9, h8, vc⟩ := vc
  refine hw_put X (fp_Te_27 X) (hw_b_nar h8) (hw_b_fit h8) h9 dd_Te_rewind_2 ?_
  refine hw_aload_n X (Or.inr ⟨_, rfl⟩) dd_Te_rewind_5 rfl ?_
  refine hw_iconst X (v := 0) dd_Te_rewind_6 (by decide) ?_
  obtain ⟨w2, h9, vc⟩ := vc
  refine hw_put X (fp_Te_31 X) rfl rfl h9 dd_Te_rewind_7 ?_
  refine hw_aload_n X (Or.inr ⟨_, rfl⟩) dd_Te_rewind_10 rfl ?_
  obtain ⟨hob, rm9, po9, hM9, hf9, hc9, vc⟩ := vc
  refine hw_callVv X (As := []) (ye_Te_34 X) hM9 rfl hf9 hc9 hob (Nat.le_of_ble_eq_true rfl) rfl dd_Te_rewind_11 (fun w3 hp => ?_)
  replace vc := vc w3 hp
  exact rt dd_Te_rewind_14 vc
end
section
variable {p : Program} {l : Launch} {e : Env} {R : Room} {s : State} {m : MethodId} {args : Array Value} {below : List Frame} {meth : Method} {c : Code} {Q : State → Prop} {g : hw_G} {A : Nat → Prop} {k n : Nat} {w : hw_H}
def vc_Te_isNumber_0 (l : Launch) (g : hw_G) (R : Room) (K : Nat → Nat → Nat → List (Option Value) → List Value → hw_H → Prop) (PR : Nat → Nat → Int32 → hw_H → Prop) (k n : Nat) (a0 : Nat) (x1 : Int32) (x2 : Int32) (w : hw_H) : Prop := ∃ x_1 : Int32, hw_g w a0 0 3 (.int x_1) ∧ (∃ x_2 : Int32, hw_g w a0 0 4 (.int x_2) ∧ (((x_2 ≤ x_1) → (K k n 29 [some (.ref a0), some (.int x1), some (.int x2), none, none, none, none] [] w)) ∧ ((¬ x_2 ≤ x_1) → (∃ b_3 : Nat, hw_g w a0 0 0 (.ref b_3) ∧ (∃ x_4 : Int32, hw_g w a0 0 3 (.int x_4) ∧ (∃ x_5 : Int32, hw_ai g 1 w b_3 x_4 x_5 ∧ (((¬ x_5 = (45 : Int32)) → (K k n 29 [some (.ref a0), some (.int x1), some (.int x2), none, none, none, none] [] w)) ∧ ((x_5 = (45 : Int32)) → (∃ x_6 : Int32, hw_g w a0 0 3 (.int x_6) ∧ (∀ y7 : Int32, y7 = (x_6 + (1 : Int32)) → (∃ x_8 : Int32, hw_g w a0 0 4 (.int x_8) ∧ (((x_8 ≤ y7) → (PR k n (0 : Int32) w)) ∧ ((¬ x_8 ≤ y7) → (∃ x_9 : Int32, hw_g w a0 0 4 (.int x_9) ∧ ((((x_9 - y7) ≤ (4 : Int32)) → (K k n 79 [some (.ref a0), some (.int x1), some (.int x2), some (.int (1 : Int32)), some (.int y7), some (.int (0 : Int32)), some (.int y7)] [] w)) ∧ ((¬ (x_9 - y7) ≤ (4 : Int32)) → (PR k n (0 : Int32) w)))))))))))))))))
set_option maxHeartbeats 4000000 in
set_option maxRecDepth 100000 in
theorem sg_Te_isNumber_0 (X : hw_X p m c cb_Te_isNumber 7 s args (mw_Te_isNumber) "ProofCourt$Text" g A) {K : Nat → Nat → Nat → List (Option Value) → List Value → hw_H → Prop} {PR : Nat → Nat → Int32 → hw_H → Prop} (hK : ∀ (k n pc : Nat) (lv : List (Option Value)) (st : List Value) (w : hw_H), K k n pc lv st w → hw_J p l e R s m args below meth c Q 7 g A k n pc lv st w) (rt : ∀ {k n pc : Nat} {lv : List (Option Value)} {x : Int32} {w : hw_H}, decode cb_Te_isNumber pc = .ok (.ireturn, 1) → PR k n x w → hw_J p l e R s m args below meth c Q 7 g A k n pc lv [.int x] w) {a0 : Nat} {x1 : Int32} {x2 : Int32} (vc : vc_Te_isNumber_0 l g R K PR k n a0 x1 x2 w) : hw_J p l e R s m args below meth c Q 7 g A k n 0 [some (.ref a0), some (.int x1), some (.int x2), none, none, none, none] [] w := by
  unfold vc_Te_isNumber_0 at vc
  refine hw_aload_n X (Or.inr ⟨_, rfl⟩) dd_Te_isNumber_0 rfl ?_
  obtain ⟨x_1, h9, vc⟩ := vc
  refine hw_get X (fe_Te_49 X) h9 dd_Te_isNumber_1 ?_
  refine hw_aload_n X (Or.inr ⟨_, rfl⟩) dd_Te_isNumber_4 rfl ?_
  obtain ⟨x_2, h9, vc⟩ := vc
  refine hw_get X (fe_Te_31 X) h9 dd_Te_isNumber_5 ?_
  refine hw_icmp_ge X (tgt := 29) dd_Te_isNumber_8 rfl (fun hc => ?_) (fun hc => ?_)
  · replace vc := vc.1 hc
    exact hK _ _ _ _ _ _ vc
  · replace vc := vc.2 hc
    refine hw_aload_n X (Or.inr ⟨_, rfl⟩) dd_Te_isNumber_11 rfl ?_
    obtain ⟨b_3, h9, vc⟩ := vc
    refine hw_get X (fe_Te_9 X) h9 dd_Te_isNumber_12 ?_
    refine hw_aload_n X (Or.inr ⟨_, rfl⟩) dd_Te_isNumber_15 rfl ?_
    obtain ⟨x_4, h9, vc⟩ := vc
    refine hw_get X (fe_Te_49 X) h9 dd_Te_isNumber_16 ?_
    obtain ⟨x_5, h9, vc⟩ := vc
    refine hw_cald X h9 dd_Te_isNumber_19 ?_
    refine hw_bipush X (v := 45) dd_Te_isNumber_20 (by decide) ?_
    refine hw_icmp_ne X (tgt := 29) dd_Te_isNumber_22 rfl (fun hc => ?_) (fun hc => ?_)
    · replace vc := vc.1 hc
      exact hK _ _ _ _ _ _ vc
    · replace vc := vc.2 hc
      refine hw_iconst X (v := 1) dd_Te_isNumber_25 (by decide) ?_
      refine hw_goto X (tgt := 30) dd_Te_isNumber_26 rfl ?_
      refine hw_istore_n X dd_Te_isNumber_30 (by decide) rfl ?_
      refine hw_iload_n X dd_Te_isNumber_31 rfl ?_
      refine hw_if_eq X (tgt := 44) dd_Te_isNumber_32 rfl (fun hc => absurd hc (by decide)) (fun _ => ?_)
      refine hw_aload_n X (Or.inr ⟨_, rfl⟩) dd_Te_isNumber_35 rfl ?_
      obtain ⟨x_6, h9, vc⟩ := vc
      refine hw_get X (fe_Te_49 X) h9 dd_Te_isNumber_36 ?_
      refine hw_iconst X (v := 1) dd_Te_isNumber_39 (by decide) ?_
      refine hw_iadd X dd_Te_isNumber_40 ?_
      refine hw_goto X (tgt := 48) dd_Te_isNumber_41 rfl ?_
      refine hw_top (fun y7 ey7 => ?_)
      replace vc := vc y7 ey7
      refine hw_istore X dd_Te_isNumber_48 (by decide) rfl ?_
      refine hw_iload X dd_Te_isNumber_50 rfl ?_
      refine hw_aload_n X (Or.inr ⟨_, rfl⟩) dd_Te_isNumber_52 rfl ?_
      obtain ⟨x_8, h9, vc⟩ := vc
      refine hw_get X (fe_Te_31 X) h9 dd_Te_isNumber_53 ?_
      refine hw_icmp_ge X (tgt := 70) dd_Te_isNumber_56 rfl (fun hc => ?_) (fun hc => ?_)
      · replace vc := vc.1 hc
        refine hw_iconst X (v := 0) dd_Te_isNumber_70 (by decide) ?_
        exact rt dd_Te_isNumber_71 vc
      · replace vc := vc.2 hc
        refine hw_aload_n X (Or.inr ⟨_, rfl⟩) dd_Te_isNumber_59 rfl ?_
        obtain ⟨x_9, h9, vc⟩ := vc
        refine hw_get X (fe_Te_31 X) h9 dd_Te_isNumber_60 ?_
        refine hw_iload X dd_Te_isNumber_63 rfl ?_
        refine hw_isub X dd_Te_isNumber_65 ?_
        refine hw_iconst X (v := 4) dd_Te_isNumber_66 (by decide) ?_
        refine hw_icmp_le X (tgt := 72) dd_Te_isNumber_67 rfl (fun hc => ?_) (fun hc => ?_)
        · replace vc := vc.1 hc
          refine hw_iconst X (v := 0) dd_Te_isNumber_72 (by decide) ?_
          refine hw_istore X dd_Te_isNumber_73 (by decide) rfl ?_
          refine hw_iload X dd_Te_isNumber_75 rfl ?_
          refine hw_istore X dd_Te_isNumber_77 (by decide) rfl ?_
          exact hK _ _ _ _ _ _ vc
        · replace vc := vc.2 hc
          refine hw_iconst X (v := 0) dd_Te_isNumber_70 (by decide) ?_
          exact rt dd_Te_isNumber_71 vc
def vc_Te_isNumber_29 (l : Launch) (g : hw_G) (R : Room) (K : Nat → Nat → Nat → List (Option Value) → List Value → hw_H → Prop) (PR : Nat → Nat → Int32 → hw_H → Prop) (k n : Nat) (a0 : Nat) (x1 : Int32) (x2 : Int32) (w : hw_H) : Prop := ∃ x_1 : Int32, hw_g w a0 0 3 (.int x_1) ∧ (∃ x_2 : Int32, hw_g w a0 0 4 (.int x_2) ∧ (((x_2 ≤ x_1) → (PR k n (0 : Int32) w)) ∧ ((¬ x_2 ≤ x_1) → (∃ x_3 : Int32, hw_g w a0 0 4 (.int x_3) ∧ ((((x_3 - x_1) ≤ (4 : Int32)) → (K k n 79 [some (.ref a0), some (.int x1), some (.int x2), some (.int (0 : Int32)), some (.int x_1), some (.int (0 : Int32)), some (.int x_1)] [] w)) ∧ ((¬ (x_3 - x_1) ≤ (4 : Int32)) → (PR k n (0 : Int32) w)))))))
set_option maxHeartbeats 4000000 in
set_option maxRecDepth 100000 in
theorem sg_Te_isNumber_29 (X : hw_X p m c cb_Te_isNumber 7 s args (mw_Te_isNumber) "ProofCourt$Text" g A) {K : Nat → Nat → Nat → List (Option Value) → List Value → hw_H → Prop} {PR : Nat → Nat → Int32 → hw_H → Prop} (hK : ∀ (k n pc : Nat) (lv : List (Option Value)) (st : List Value) (w : hw_H), K k n pc lv st w → hw_J p l e R s m args below meth c Q 7 g A k n pc lv st w) (rt : ∀ {k n pc : Nat} {lv : List (Option Value)} {x : Int32} {w : hw_H}, decode cb_Te_isNumber pc = .ok (.ireturn, 1) → PR k n x w → hw_J p l e R s m args below meth c Q 7 g A k n pc lv [.int x] w) {a0 : Nat} {x1 : Int32} {x2 : Int32} (vc : vc_Te_isNumber_29 l g R K PR k n a0 x1 x2 w) : hw_J p l e R s m args below meth c Q 7 g A k n 29 [some (.ref a0), some (.int x1), some (.int x2), none, none, none, none] [] w := by
  unfold vc_Te_isNumber_29 at vc
  refine hw_iconst X (v := 0) dd_Te_isNumber_29 (by decide) ?_
  refine hw_istore_n X dd_Te_isNumber_30 (by decide) rfl ?_
  refine hw_iload_n X dd_Te_isNumber_31 rfl ?_
  refine hw_if_eq X (tgt := 44) dd_Te_isNumber_32 rfl (fun _ => ?_) (fun hc => absurd hc (by decide))
  refine hw_aload_n X (Or.inr ⟨_, rfl⟩) dd_Te_isNumber_44 rfl ?_
  obtain ⟨x_1, h9, vc⟩ := vc
  refine hw_get X (fe_Te_49 X) h9 dd_Te_isNumber_45 ?_
  refine hw_istore X dd_Te_isNumber_48 (by decide) rfl ?_
  refine hw_iload X dd_Te_isNumber_50 rfl ?_
  refine hw_aload_n X (Or.inr ⟨_, rfl⟩) dd_Te_isNumber_52 rfl ?_
  obtain ⟨x_2, h9, vc⟩ := vc
  refine hw_get X (fe_Te_31 X) h9 dd_Te_isNumber_53 ?_
  refine hw_icmp_ge X (tgt := 70) dd_Te_isNumber_56 rfl (fun hc => ?_) (fun hc => ?_)
  · replace vc := vc.1 hc
    refine hw_iconst X (v := 0) dd_Te_isNumber_70 (by decide) ?_
    exact rt dd_Te_isNumber_71 vc
  · replace vc := vc.2 hc
    refine hw_aload_n X (Or.inr ⟨_, rfl⟩) dd_Te_isNumber_59 rfl ?_
    obtain ⟨x_3, h9, vc⟩ := vc
    refine hw_get X (fe_Te_31 X) h9 dd_Te_isNumber_60 ?_
    refine hw_iload X dd_Te_isNumber_63 rfl ?_
    refine hw_isub X dd_Te_isNumber_65 ?_
    refine hw_iconst X (v := 4) dd_Te_isNumber_66 (by decide) ?_
    refine hw_icmp_le X (tgt := 72) dd_Te_isNumber_67 rfl (fun hc => ?_) (fun hc => ?_)
    · replace vc := vc.1 hc
      refine hw_iconst X (v := 0) dd_Te_isNumber_72 (by decide) ?_
      refine hw_istore X dd_Te_isNumber_73 (by decide) rfl ?_
      refine hw_iload X dd_Te_isNumber_75 rfl ?_
      refine hw_istore X dd_Te_isNumber_77 (by decide) rfl ?_
      exact hK _ _ _ _ _ _ vc
    · replace vc := vc.2 hc
      refine hw_iconst X (v := 0) dd_Te_isNumber_70 (by decide) ?_
      exact rt dd_Te_isNumber_71 vc
def vc_Te_isNumber_79 (l : Launch) (g : hw_G) (R : Room) (K : Nat → Nat → Nat → List (Option Value) → List Value → hw_H → Prop) (PR : Nat → Nat → Int32 → hw_H → Prop) (k n : Nat) (a0 : Nat) (x1 : Int32) (x2 : Int32) (x3 : Int32) (x4 : Int32) (x5 : Int32) (x6 : Int32) (w : hw_H) : Prop := ∃ x_1 : Int32, hw_g w a0 0 4 (.int x_1) ∧ (((x_1 ≤ x6) → (((x3 = 0) → (∃ w2 : hw_H, hw_p w a0 0 5 (.int x5) w2 ∧ (∃ x_3 : Int32, hw_g w2 a0 0 5 (.int x_3) ∧ (((x_3 < x1) → (PR k n (0 : Int32) w2)) ∧ ((¬ x_3 < x1) → (∃ x_4 : Int32, hw_g w2 a0 0 5 (.int x_4) ∧ (((x2 < x_4) → (PR k n (0 : Int32) w2)) ∧ ((¬ x2 < x_4) → (PR k n (1 : Int32) w2))))))))) ∧ ((¬ x3 = 0) → (∃ w5 : hw_H, hw_p w a0 0 5 (.int (-x5)) w5 ∧ (∃ x_6 : Int32, hw_g w5 a0 0 5 (.int x_6) ∧ (((x_6 < x1) → (PR k n (0 : Int32) w5)) ∧ ((¬ x_6 < x1) → (∃ x_7 : Int32, hw_g w5 a0 0 5 (.int x_7) ∧ (((x2 < x_7) → (PR k n (0 : Int32) w5)) ∧ ((¬ x2 < x_7) → (PR k n (1 : Int32) w5))))))))))) ∧ ((¬ x_1 ≤ x6) → (∃ b_8 : Nat, hw_g w a0 0 0 (.ref b_8) ∧ (∃ x_9 : Int32, hw_ai g 1 w b_8 x6 x_9 ∧ (((x_9 < (48 : Int32)) → (PR k n (0 : Int32) w)) ∧ ((¬ x_9 < (48 : Int32)) → (∃ b_10 : Nat, hw_g w a0 0 0 (.ref b_10) ∧ (∃ x_11 : Int32, hw_ai g 1 w b_10 x6 x_11 ∧ (((x_11 ≤ (57 : Int32)) → (∃ b_12 : Nat, hw_g w a0 0 0 (.ref b_12) ∧ (∃ x_13 : Int32, hw_ai g 1 w b_12 x6 x_13 ∧ (∀ y14 : Int32, y14 = (((10 : Int32) * x5) + (x_13 - (48 : Int32))) → (K k n 79 [some (.ref a0), some (.int x1), some (.int x2), some (.int x3), some (.int x4), some (.int y14), some (.int (x6 + 1))] [] w))))) ∧ ((¬ x_11 ≤ (57 : Int32)) → (PR k n (0 : Int32) w)))))))))))
set_option maxHeartbeats 4000000 in
set_option maxRecDepth 100000 in
theorem sg_Te_isNumber_79 (X : hw_X p m c cb_Te_isNumber 7 s args (mw_Te_isNumber) "ProofCourt$Text" g A) {K : Nat → Nat → Nat → List (Option Value) → List Value → hw_H → Prop} {PR : Nat → Nat → Int32 → hw_H → Prop} (hK : ∀ (k n pc : Nat) (lv : List (Option Value)) (st : List Value) (w : hw_H), K k n pc lv st w → hw_J p l e R s m args below meth c Q 7 g A k n pc lv st w) (rt : ∀ {k n pc : Nat} {lv : List (Option Value)} {x : Int32} {w : hw_H}, decode cb_Te_isNumber pc = .ok (.ireturn, 1) → PR k n x w → hw_J p l e R s m args below meth c Q 7 g A k n pc lv [.int x] w) {a0 : Nat} {x1 : Int32} {x2 : Int32} {x3 : Int32} {x4 : Int32} {x5 : Int32} {x6 : Int32} (vc : vc_Te_isNumber_79 l g R K PR k n a0 x1 x2 x3 x4 x5 x6 w) : hw_J p l e R s m args below meth c Q 7 g A k n 79 [some (.ref a0), some (.int x1), some (.int x2), some (.int x3), some (.int x4), some (.int x5), some (.int x6)] [] w := by
  unfold vc_Te_isNumber_79 at vc
  refine hw_iload X dd_Te_isNumber_79 rfl ?_
  refine hw_aload_n X (Or.inr ⟨_, rfl⟩) dd_Te_isNumber_81 rfl ?_
  obtain ⟨x_1, h9, vc⟩ := vc
  refine hw_get X (fe_Te_31 X) h9 dd_Te_isNumber_82 ?_
  refine hw_icmp_ge X (tgt := 138) dd_Te_isNumber_85 rfl (fun hc => ?_) (fun hc => ?_)
  · replace vc := vc.1 hc
    refine hw_aload_n X (Or.inr ⟨_, rfl⟩) dd_Te_isNumber_138 rfl ?_
    refine hw_iload_n X dd_Te_isNumber_139 rfl ?_
    refine hw_if_eq X (tgt := 149) dd_Te_isNumber_140 rfl (fun hc => ?_) (fun hc => ?_)
    · replace vc := vc.1 hc
      refine hw_iload X dd_Te_isNumber_149 rfl ?_
      obtain ⟨w2, h9, vc⟩ := vc
      refine hw_put X (fp_Te_60 X) rfl rfl h9 dd_Te_isNumber_151 ?_
      refine hw_iload_n X dd_Te_isNumber_154 rfl ?_
      refine hw_aload_n X (Or.inr ⟨_, rfl⟩) dd_Te_isNumber_155 rfl ?_
      obtain ⟨x_3, h9, vc⟩ := vc
      refine hw_get X (fe_Te_60 X) h9 dd_Te_isNumber_156 ?_
      refine hw_icmp_gt X (tgt := 174) dd_Te_isNumber_159 rfl (fun hc => ?_) (fun hc => ?_)
      · replace vc := vc.1 hc
        refine hw_iconst X (v := 0) dd_Te_isNumber_174 (by decide) ?_
        exact rt dd_Te_isNumber_175 vc
      · replace vc := vc.2 hc
        refine hw_aload_n X (Or.inr ⟨_, rfl⟩) dd_Te_isNumber_162 rfl ?_
        obtain ⟨x_4, h9, vc⟩ := vc
        refine hw_get X (fe_Te_60 X) h9 dd_Te_isNumber_163 ?_
        refine hw_iload_n X dd_Te_isNumber_166 rfl ?_
        refine hw_icmp_gt X (tgt := 174) dd_Te_isNumber_167 rfl (fun hc => ?_) (fun hc => ?_)
        · replace vc := vc.1 hc
          refine hw_iconst X (v := 0) dd_Te_isNumber_174 (by decide) ?_
          exact rt dd_Te_isNumber_175 vc
        · replace vc := vc.2 hc
          refine hw_iconst X (v := 1) dd_Te_isNumber_170 (by decide) ?_
          refine hw_goto X (tgt := 175) dd_Te_isNumber_171 rfl ?_
          exact rt dd_Te_isNumber_175 vc
    · replace vc := vc.2 hc
      refine hw_iload X dd_Te_isNumber_143 rfl ?_
      refine hw_ineg X dd_Te_isNumber_145 ?_
      refine hw_goto X (tgt := 151) dd_Te_isNumber_146 rfl ?_
      obtain ⟨w5, h9, vc⟩ := vc
      refine hw_put X (fp_Te_60 X) rfl rfl h9 dd_Te_isNumber_151 ?_
      refine hw_iload_n X dd_Te_isNumber_154 rfl ?_
      refine hw_aload_n X (Or.inr ⟨_, rfl⟩) dd_Te_isNumber_155 rfl ?_
      obtain ⟨x_6, h9, vc⟩ := vc
      refine hw_get X (fe_Te_60 X) h9 dd_Te_isNumber_156 ?_
      refine hw_icmp_gt X (tgt := 174) dd_Te_isNumber_159 rfl (fun hc => ?_) (fun hc => ?_)
      · replace vc := vc.1 hc
        refine hw_iconst X (v := 0) dd_Te_isNumber_174 (by decide) ?_
        exact rt dd_Te_isNumber_175 vc
      · replace vc := vc.2 hc
        refine hw_aload_n X (Or.inr ⟨_, rfl⟩) dd_Te_isNumber_162 rfl ?_
        obtain ⟨x_7, h9, vc⟩ := vc
        refine hw_get X (fe_Te_60 X) h9 dd_Te_isNumber_163 ?_
        refine hw_iload_n X dd_Te_isNumber_166 rfl ?_
        refine hw_icmp_gt X (tgt := 174) dd_Te_isNumber_167 rfl (fun hc => ?_) (fun hc => ?_)
        · replace vc := vc.1 hc
          refine hw_iconst X (v := 0) dd_Te_isNumber_174 (by decide) ?_
          exact rt dd_Te_isNumber_175 vc
        · replace vc := vc.2 hc
          refine hw_iconst X (v := 1) dd_Te_isNumber_170 (by decide) ?_
          refine hw_goto X (tgt := 175) dd_Te_isNumber_171 rfl ?_
          exact rt dd_Te_isNumber_175 vc
  · replace vc := vc.2 hc
    refine hw_aload_n X (Or.inr ⟨_, rfl⟩) dd_Te_isNumber_88 rfl ?_
    obtain ⟨b_8, h9, vc⟩ := vc
    refine hw_get X (fe_Te_9 X) h9 dd_Te_isNumber_89 ?_
    refine hw_iload X dd_Te_isNumber_92 rfl ?_
    obtain ⟨x_9, h9, vc⟩ := vc
    refine hw_cald X h9 dd_Te_isNumber_94 ?_
    refine hw_bipush X (v := 48) dd_Te_isNumber_95 (by decide) ?_
    refine hw_icmp_lt X (tgt := 112) dd_Te_isNumber_97 rfl (fun hc => ?_) (fun hc => ?_)
    · replace vc := vc.1 hc
      refine hw_iconst X (v := 0) dd_Te_isNumber_112 (by decide) ?_
      exact rt dd_Te_isNumber_113 vc
    · replace vc := vc.2 hc
      refine hw_aload_n X (Or.inr ⟨_, rfl⟩) dd_Te_isNumber_100 rfl ?_
      obtain ⟨b_10, h9, vc⟩ := vc
      refine hw_get X (fe_Te_9 X) h9 dd_Te_isNumber_101 ?_
      refine hw_iload X dd_Te_isNumber_104 rfl ?_
      obtain ⟨x_11, h9, vc⟩ := vc
      refine hw_cald X h9 dd_Te_isNumber_106 ?_
      refine hw_bipush X (v := 57) dd_Te_isNumber_107 (by decide) ?_
      refine hw_icmp_le X (tgt := 114) dd_Te_isNumber_109 rfl (fun hc => ?_) (fun hc => ?_)
      · replace vc := vc.1 hc
        refine hw_bipush X (v := 10) dd_Te_isNumber_114 (by decide) ?_
        refine hw_iload X dd_Te_isNumber_116 rfl ?_
        refine hw_imul X dd_Te_isNumber_118 ?_
        refine hw_aload_n X (Or.inr ⟨_, rfl⟩) dd_Te_isNumber_119 rfl ?_
        obtain ⟨b_12, h9, vc⟩ := vc
        refine hw_get X (fe_Te_9 X) h9 dd_Te_isNumber_120 ?_
        refine hw_iload X dd_Te_isNumber_123 rfl ?_
        obtain ⟨x_13, h9, vc⟩ := vc
        refine hw_cald X h9 dd_Te_isNumber_125 ?_
        refine hw_bipush X (v := 48) dd_Te_isNumber_126 (by decide) ?_
        refine hw_isub X dd_Te_isNumber_128 ?_
        refine hw_iadd X dd_Te_isNumber_129 ?_
        refine hw_top (fun y14 ey14 => ?_)
        replace vc := vc y14 ey14
        refine hw_istore X dd_Te_isNumber_130 (by decide) rfl ?_
        refine hw_iinc X (v := (x6 + 1)) dd_Te_isNumber_132 rfl rfl (by decide) rfl ?_
        refine hw_goto X (tgt := 79) dd_Te_isNumber_135 rfl ?_
        exact hK _ _ _ _ _ _ vc
      · replace vc := vc.2 hc
        refine hw_iconst X (v := 0) dd_Te_isNumber_112 (by decide) ?_
        exact rt dd_Te_isNumber_113 vc
end
section
variable {p : Program} {l : Launch} {e : Env} {R : Room} {s : State} {m : MethodId} {args : Array Value} {below : List Frame} {meth : Method} {c : Code} {Q : State → Prop} {g : hw_G} {A : Nat → Prop} {k n : Nat} {w : hw_H}
def vc_Te_passesNumber_0 (l : Launch) (g : hw_G) (R : Room) (K : Nat → Nat → Nat → List (Option Value) → List Value → hw_H → Prop) (PR : Nat → Nat → Int32 → hw_H → Prop) (k n : Nat) (a0 : Nat) (x1 : Int32) (x2 : Int32) (w : hw_H) : Prop := hw_o w a0 "ProofCourt$Text" ∧ hw_ci l g R k n ym_Te_isNumber (mw_Te_isNumber) 7 [.ref a0, .int x1, .int x2] w (fun (k2 n3 : Nat) (x_4 : Int32) (w1 : hw_H) => ((¬ x_4 = 0) → (hw_o w1 a0 "ProofCourt$Text" ∧ hw_cv l g R k2 n3 ym_Te_advance (mw_Te_advance) 2 [.ref a0] w1 (fun (k6 n7 : Nat) (w5 : hw_H) => PR k6 n7 (1 : Int32) w5))) ∧ ((x_4 = 0) → (PR k2 n3 (0 : Int32) w1)))
set_option maxHeartbeats 4000000 in
set_option maxRecDepth 100000 in
theorem sg_Te_passesNumber_0 (X : hw_X p m c cb_Te_passesNumber 3 s args (mw_Te_passesNumber) "ProofCourt$Text" g A) {K : Nat → Nat → Nat → List (Option Value) → List Value → hw_H → Prop} {PR : Nat → Nat → Int32 → hw_H → Prop} (hK : ∀ (k n pc : Nat) (lv : List (Option Value)) (st : List Value) (w : hw_H), K k n pc lv st w → hw_J p l e R s m args below meth c Q 3 g A k n pc lv st w) (rt : ∀ {k n pc : Nat} {lv : List (Option Value)} {x : Int32} {w : hw_H}, decode cb_Te_passesNumber pc = .ok (.ireturn, 1) → PR k n x w → hw_J p l e R s m args below meth c Q 3 g A k n pc lv [.int x] w) {a0 : Nat} {x1 : Int32} {x2 : Int32} (vc : vc_Te_passesNumber_0 l g R K PR k n a0 x1 x2 w) : hw_J p l e R s m args below meth c Q 3 g A k n 0 [some (.ref a0), some (.int x1), some (.int x2)] [] w := by
  unfold vc_Te_passesNumber_0 at vc
  refine hw_aload_n X (Or.inr ⟨_, rfl⟩) dd_Te_passesNumber_0 rfl ?_
  refine hw_iload_n X dd_Te_passesNumber_1 rfl ?_
  refine hw_iload_n X dd_Te_passesNumber_2 rfl ?_
  obtain ⟨hob, rm9, po9, hM9, hf9, hc9, vc⟩ := vc
  refine hw_callVi X (As := [.int x1, .int x2]) (ye_Te_67 X) hM9 rfl hf9 hc9 hob (Nat.le_of_ble_eq_true rfl) rfl dd_Te_passesNumber_3 (fun x_4 w1 hp => ?_)
  replace vc := vc x_4 w1 hp
  refine hw_if_ne X (tgt := 11) dd_Te_passesNumber_6 rfl (fun hc => ?_) (fun hc => ?_)
  · replace vc := vc.1 hc
    refine hw_aload_n X (Or.inr ⟨_, rfl⟩) dd_Te_passesNumber_11 rfl ?_
    obtain ⟨hob, rm9, po9, hM9, hf9, hc9, vc⟩ := vc
    refine hw_callVv X (As := []) (ye_Te_34 X) hM9 rfl hf9 hc9 hob (Nat.le_of_ble_eq_true rfl) rfl dd_Te_passesNumber_12 (fun w5 hp => ?_)
    replace vc := vc w5 hp
    refine hw_iconst X (v := 1) dd_Te_passesNumber_15 (by decide) ?_
    exact rt dd_Te_passesNumber_16 vc
  · replace vc := vc.2 hc
    refine hw_iconst X (v := 0) dd_Te_passesNumber_9 (by decide) ?_
    exact rt dd_Te_passesNumber_10 vc
end
section
variable {p : Program} {l : Launch} {e : Env} {R : Room} {s : State} {m : MethodId} {args : Array Value} {below : List Frame} {meth : Method} {c : Code} {Q : State → Prop} {g : hw_G} {A : Nat → Prop} {k n : Nat} {w : hw_H}
def vc_Te_passesWord_0 (l : Launch) (g : hw_G) (R : Room) (K : Nat → Nat → Nat → List (Option Value) → List Value → hw_H → Prop) (PR : Nat → Nat → Int32 → hw_H → Prop) (k n : Nat) (a0 : Nat) (i1 : Nat) (w : hw_H) : Prop := hw_o w a0 "ProofCourt$Text" ∧ hw_ci l g R k n ym_Te_isWord (mw_Te_isWord) 3 [.ref a0, .ref (g.2.2.1 i1)] w (fun (k2 n3 : Nat) (x_4 : Int32) (w1 : hw_H) => ((¬ x_4 = 0) → (hw_o w1 a0 "ProofCourt$Text" ∧ hw_cv l g R k2 n3 ym_Te_advance (mw_Te_advance) 2 [.ref a0] w1 (fun (k6 n7 : Nat) (w5 : hw_H) => PR k6 n7 (1 : Int32) w5))) ∧ ((x_4 = 0) → (PR k2 n3 (0 : Int32) w1)))
set_option maxHeartbeats 4000000 in
set_option maxRecDepth 100000 in
theorem sg_Te_passesWord_0 (X : hw_X p m c cb_Te_passesWord 2 s args (mw_Te_passesWord) "ProofCourt$Text" g A) {K : Nat → Nat → Nat → List (Option Value) → List Value → hw_H → Prop} {PR : Nat → Nat → Int32 → hw_H → Prop} (hK : ∀ (k n pc : Nat) (lv : List (Option Value)) (st : List Value) (w : hw_H), K k n pc lv st w → hw_J p l e R s m args below meth c Q 2 g A k n pc lv st w) (rt : ∀ {k n pc : Nat} {lv : List (Option Value)} {x : Int32} {w : hw_H}, decode cb_Te_passesWord pc = .ok (.ireturn, 1) → PR k n x w → hw_J p l e R s m args below meth c Q 2 g A k n pc lv [.int x] w) {a0 : Nat} {i1 : Nat} (vc : vc_Te_passesWord_0 l g R K PR k n a0 i1 w) : hw_J p l e R s m args below meth c Q 2 g A k n 0 [some (.ref a0), some (.ref (g.2.2.1 i1))] [] w := by
  unfold vc_Te_passesWord_0 at vc
  refine hw_aload_n X (Or.inr ⟨_, rfl⟩) dd_Te_passesWord_0 rfl ?_
  refine hw_aload_n X (Or.inr ⟨_, rfl⟩) dd_Te_passesWord_1 rfl ?_
  obtain ⟨hob, rm9, po9, hM9, hf9, hc9, vc⟩ := vc
  refine hw_callVi X (As := [.ref (g.2.2.1 i1)]) (ye_Te_63 X) hM9 rfl hf9 hc9 hob (Nat.le_of_ble_eq_true rfl) rfl dd_Te_passesWord_2 (fun x_4 w1 hp => ?_)
  replace vc := vc x_4 w1 hp
  refine hw_if_ne X (tgt := 10) dd_Te_passesWord_5 rfl (fun hc => ?_) (fun hc => ?_)
  · replace vc := vc.1 hc
    refine hw_aload_n X (Or.inr ⟨_, rfl⟩) dd_Te_passesWord_10 rfl ?_
    obtain ⟨hob, rm9, po9, hM9, hf9, hc9, vc⟩ := vc
    refine hw_callVv X (As := []) (ye_Te_34 X) hM9 rfl hf9 hc9 hob (Nat.le_of_ble_eq_true rfl) rfl dd_Te_passesWord_11 (fun w5 hp => ?_)
    replace vc := vc w5 hp
    refine hw_iconst X (v := 1) dd_Te_passesWord_14 (by decide) ?_
    exact rt dd_Te_passesWord_15 vc
  · replace vc := vc.2 hc
    refine hw_iconst X (v := 0) dd_Te_passesWord_8 (by decide) ?_
    exact rt dd_Te_passesWord_9 vc
end
section
variable {p : Program} {l : Launch} {e : Env} {R : Room} {s : State} {m : MethodId} {args : Array Value} {below : List Frame} {meth : Method} {c : Code} {Q : State → Prop} {g : hw_G} {A : Nat → Prop} {k n : Nat} {w : hw_H}
def vc_Te_init_0 (l : Launch) (g : hw_G) (R : Room) (K : Nat → Nat → Nat → List (Option Value) → List Value → hw_H → Prop) (PR : Nat → Nat → hw_H → Prop) (k n : Nat) (a0 : Nat) (w : hw_H) : Prop := (k + 1 ≤ R.cells ∧ n + 160 ≤ R.slots) ∧ ∀ (q1 : Nat) (w2 : hw_H), w q1 = none → w2 = va_up w q1 (some (.inl (g.2.1 1, 160, .inl (fun _ => 0)))) → (∃ w3 : hw_H, hw_p w2 a0 0 0 (.ref q1) w3 ∧ (PR (k + 1) (n + 160) w3))
set_option maxHeartbeats 4000000 in
set_option maxRecDepth 100000 in
theorem sg_Te_init_0 (X : hw_X p m c cb_Te_init 1 s args (mw_Te_init) "ProofCourt$Text" g A) (hin : meth.name = "<init>") (hRm : 1 ≤ R.frames ∧ 20 ≤ R.locals) {K : Nat → Nat → Nat → List (Option Value) → List Value → hw_H → Prop} {PR : Nat → Nat → hw_H → Prop} (hK : ∀ (k n pc : Nat) (lv : List (Option Value)) (st : List Value) (w : hw_H), K k n pc lv st w → hw_J p l e R s m args below meth c Q 1 g A k n pc lv st w) (rt : ∀ {k n pc : Nat} {lv : List (Option Value)} {w : hw_H}, decode cb_Te_init pc = .ok (.return_, 1) → PR k n w → hw_J p l e R s m args below meth c Q 1 g A k n pc lv [] w) {a0 : Nat} (vc : vc_Te_init_0 l g R K PR k n a0 w) : hw_J p l e R s m args below meth c Q 1 g A k n 0 [some (.ref a0)] [] w := by
  unfold vc_Te_init_0 at vc
  refine hw_aload_n X (Or.inr ⟨_, rfl⟩) dd_Te_init_0 rfl ?_
  refine hw_objInit X (oi_Te_3 X) (oj_Te X) (ok_Te X) (hw_oi1 hRm) (hw_oi2 hRm) (by decide) dd_Te_init_1 ?_
  refine hw_aload_n X (Or.inr ⟨_, rfl⟩) dd_Te_init_4 rfl ?_
  refine hw_sipush X (v := 160) dd_Te_init_5 (by decide) ?_
  refine hw_newa X (t := 1) (N := 160) (ty := .char) (ac_Te_char X) rfl rfl (fun _ z => by cases z) rfl (by decide) (by decide) (by decide) vc.1.1 vc.1.2 dd_Te_init_8 (fun q1 hq => ?_)
  replace vc := vc.2 q1 _ hq rfl
  obtain ⟨w3, h9, vc⟩ := vc
  refine hw_putF X (ff_Te_9 X) hin rfl rfl h9 dd_Te_init_10 ?_
  exact rt dd_Te_init_13 vc
end
section
variable {p : Program} {l : Launch} {e : Env} {R : Room} {s : State} {m : MethodId} {args : Array Value} {below : List Frame} {meth : Method} {c : Code} {Q : State → Prop} {g : hw_G} {A : Nat → Prop} {k n : Nat} {w : hw_H}
def vc_In_bitCount_0 (l : Launch) (g : hw_G) (R : Room) (K : Nat → Nat → Nat → List (Option Value) → List Value → hw_H → Prop) (PR : Nat → Nat → Int32 → hw_H → Prop) (k n : Nat) (x0 : Int32) (w : hw_H) : Prop := ∀ y1 : Int32, y1 = (x0 - (((x0).toUInt32 >>> (((1 : Int32)).toUInt32 &&& Int32.toUInt32 31)).toInt32 &&& (1431655765 : Int32))) → (∀ y2 : Int32, y2 = ((y1 &&& (858993459 : Int32)) + (((y1).toUInt32 >>> (((2 : Int32)).toUInt32 &&& Int32.toUInt32 31)).toInt32 &&& (858993459 : Int32))) → (∀ y3 : Int32, y3 = ((y2 + ((y2).toUInt32 >>> (((4 : Int32)).toUInt32 &&& Int32.toUInt32 31)).toInt32) &&& (252645135 : Int32)) → (∀ y4 : Int32, y4 = (y3 + ((y3).toUInt32 >>> (((8 : Int32)).toUInt32 &&& Int32.toUInt32 31)).toInt32) → (∀ y5 : Int32, y5 = (y4 + ((y4).toUInt32 >>> (((16 : Int32)).toUInt32 &&& Int32.toUInt32 31)).toInt32) → (PR k n (y5 &&& (63 : Int32)) w)))))
set_option maxHeartbeats 4000000 in
set_option maxRecDepth 100000 in
theorem sg_In_bitCount_0 (X : hw_X p m c cb_In_bitCount 1 s args (mw_In_bitCount) "java/lang/Integer" g A) {K : Nat → Nat → Nat → List (Option Value) → List Value → hw_H → Prop} {PR : Nat → Nat → Int32 → hw_H → Prop} (hK : ∀ (k n pc : Nat) (lv : List (Option Value)) (st : List Value) (w : hw_H), K k n pc lv st w → hw_J p l e R s m args below meth c Q 1 g A k n pc lv st w) (rt : ∀ {k n pc : Nat} {lv : List (Option Value)} {x : Int32} {w : hw_H}, decode cb_In_bitCount pc = .ok (.ireturn, 1) → PR k n x w → hw_J p l e R s m args below meth c Q 1 g A k n pc lv [.int x] w) {x0 : Int32} (vc : vc_In_bitCount_0 l g R K PR k n x0 w) : hw_J p l e R s m args below meth c Q 1 g A k n 0 [some (.int x0)] [] w := by
  unfold vc_In_bitCount_0 at vc
  refine hw_iload_n X dd_In_bitCount_0 rfl ?_
  refine hw_iload_n X dd_In_bitCount_1 rfl ?_
  refine hw_iconst X (v := 1) dd_In_bitCount_2 (by decide) ?_
  refine hw_iushr X rfl dd_In_bitCount_3 ?_
  refine hw_ldc_w X (kc_In_265 X) dd_In_bitCount_4 ?_
  refine hw_iand X dd_In_bitCount_7 ?_
  refine hw_isub X dd_In_bitCount_8 ?_
  refine hw_top (fun y1 ey1 => ?_)
  replace vc := vc y1 ey1
  refine hw_istore_n X dd_In_bitCount_9 (by decide) rfl ?_
  refine hw_iload_n X dd_In_bitCount_10 rfl ?_
  refine hw_ldc_w X (kc_In_266 X) dd_In_bitCount_11 ?_
  refine hw_iand X dd_In_bitCount_14 ?_
  refine hw_iload_n X dd_In_bitCount_15 rfl ?_
  refine hw_iconst X (v := 2) dd_In_bitCount_16 (by decide) ?_
  refine hw_iushr X rfl dd_In_bitCount_17 ?_
  refine hw_ldc_w X (kc_In_266 X) dd_In_bitCount_18 ?_
  refine hw_iand X dd_In_bitCount_21 ?_
  refine hw_iadd X dd_In_bitCount_22 ?_
  refine hw_top (fun y2 ey2 => ?_)
  replace vc := vc y2 ey2
  refine hw_istore_n X dd_In_bitCount_23 (by decide) rfl ?_
  refine hw_iload_n X dd_In_bitCount_24 rfl ?_
  refine hw_iload_n X dd_In_bitCount_25 rfl ?_
  refine hw_iconst X (v := 4) dd_In_bitCount_26 (by decide) ?_
  refine hw_iushr X rfl dd_In_bitCount_27 ?_
  refine hw_iadd X dd_In_bitCount_28 ?_
  refine hw_ldc_w X (kc_In_267 X) dd_In_bitCount_29 ?_
  refine hw_iand X dd_In_bitCount_32 ?_
  refine hw_top (fun y3 ey3 => ?_)
  replace vc := vc y3 ey3
  refine hw_istore_n X dd_In_bitCount_33 (by decide) rfl ?_
  refine hw_iload_n X dd_In_bitCount_34 rfl ?_
  refine hw_iload_n X dd_In_bitCount_35 rfl ?_
  refine hw_bipush X (v := 8) dd_In_bitCount_36 (by decide) ?_
  refine hw_iushr X rfl dd_In_bitCount_38 ?_
  refine hw_iadd X dd_In_bitCount_39 ?_
  refine hw_top (fun y4 ey4 => ?_)
  replace vc := vc y4 ey4
  refine hw_istore_n X dd_In_bitCount_40 (by decide) rfl ?_
  refine hw_iload_n X dd_In_bitCount_41 rfl ?_
  refine hw_iload_n X dd_In_bitCount_42 rfl ?_
  refine hw_bipush X (v := 16) dd_In_bitCount_43 (by decide) ?_
  refine hw_iushr X rfl dd_In_bitCount_45 ?_
  refine hw_iadd X dd_In_bitCount_46 ?_
  refine hw_top (fun y5 ey5 => ?_)
  replace vc := vc y5 ey5
  refine hw_istore_n X dd_In_bitCount_47 (by decide) rfl ?_
  refine hw_iload_n X dd_In_bitCount_48 rfl ?_
  refine hw_bipush X (v := 63) dd_In_bitCount_49 (by decide) ?_
  refine hw_iand X dd_In_bitCount_51 ?_
  exact rt dd_In_bitCount_52 vc
end
section
variable {p : Program} {l : Launch} {e : Env} {R : Room} {s : State} {m : MethodId} {args : Array Value} {below : List Frame} {meth : Method} {c : Code} {Q : State → Prop} {g : hw_G} {A : Nat → Prop} {k n : Nat} {w : hw_H}
def vc_St_length_0 (l : Launch) (g : hw_G) (R : Room) (K : Nat → Nat → Nat → List (Option Value) → List Value → hw_H → Prop) (PR : Nat → Nat → Int32 → hw_H → Prop) (k n : Nat) (i0 : Nat) (w : hw_H) : Prop := i0 < hw_sN ∧ (i0 < hw_sN ∧ (i0 < hw_sN ∧ hw_ci l g R k n ym_St_coder (mw_St_coder) 1 [.ref (g.2.2.1 i0)] w (fun (k2 n3 : Nat) (x_4 : Int32) (w1 : hw_H) => PR k2 n3 ((nI (hw_sLen.getD i0 0)) >>> (x_4 &&& 31)) w1)))
set_option maxHeartbeats 4000000 in
set_option maxRecDepth 100000 in
theorem sg_St_length_0 (X : hw_X p m c cb_St_length 1 s args (mw_St_length) "java/lang/String" g A) {K : Nat → Nat → Nat → List (Option Value) → List Value → hw_H → Prop} {PR : Nat → Nat → Int32 → hw_H → Prop} (hK : ∀ (k n pc : Nat) (lv : List (Option Value)) (st : List Value) (w : hw_H), K k n pc lv st w → hw_J p l e R s m args below meth c Q 1 g A k n pc lv st w) (rt : ∀ {k n pc : Nat} {lv : List (Option Value)} {x : Int32} {w : hw_H}, decode cb_St_length pc = .ok (.ireturn, 1) → PR k n x w → hw_J p l e R s m args below meth c Q 1 g A k n pc lv [.int x] w) {i0 : Nat} (vc : vc_St_length_0 l g R K PR k n i0 w) : hw_J p l e R s m args below meth c Q 1 g A k n 0 [some (.ref (g.2.2.1 i0))] [] w := by
  unfold vc_St_length_0 at vc
  refine hw_aload_n X (Or.inr ⟨_, rfl⟩) dd_St_length_0 rfl ?_
  obtain ⟨h9, vc⟩ := vc
  refine hw_svalue X h9 (gs_St_9 X) dd_St_length_1 ?_
  obtain ⟨h9, vc⟩ := vc
  refine hw_sblen X h9 dd_St_length_4 ?_
  refine hw_aload_n X (Or.inr ⟨_, rfl⟩) dd_St_length_5 rfl ?_
  obtain ⟨hob, rm9, po9, hM9, hf9, hc9, vc⟩ := vc
  refine hw_callVsi X (As := []) (ye_St_335 X) hM9 rfl hf9 hc9 hob (Nat.le_of_ble_eq_true rfl) rfl dd_St_length_6 (fun x_4 w1 hp => ?_)
  replace vc := vc x_4 w1 hp
  refine hw_ishr X dd_St_length_9 ?_
  exact rt dd_St_length_10 vc
end
section
variable {p : Program} {l : Launch} {e : Env} {R : Room} {s : State} {m : MethodId} {args : Array Value} {below : List Frame} {meth : Method} {c : Code} {Q : State → Prop} {g : hw_G} {A : Nat → Prop} {k n : Nat} {w : hw_H}
def vc_St_coder_0 (l : Launch) (g : hw_G) (R : Room) (K : Nat → Nat → Nat → List (Option Value) → List Value → hw_H → Prop) (PR : Nat → Nat → Int32 → hw_H → Prop) (k n : Nat) (i0 : Nat) (w : hw_H) : Prop := i0 < hw_sN ∧ (PR k n (0 : Int32) w)
set_option maxHeartbeats 4000000 in
set_option maxRecDepth 100000 in
theorem sg_St_coder_0 (X : hw_X p m c cb_St_coder 1 s args (mw_St_coder) "java/lang/String" g A) {K : Nat → Nat → Nat → List (Option Value) → List Value → hw_H → Prop} {PR : Nat → Nat → Int32 → hw_H → Prop} (hK : ∀ (k n pc : Nat) (lv : List (Option Value)) (st : List Value) (w : hw_H), K k n pc lv st w → hw_J p l e R s m args below meth c Q 1 g A k n pc lv st w) (rt : ∀ {k n pc : Nat} {lv : List (Option Value)} {x : Int32} {w : hw_H}, decode cb_St_coder pc = .ok (.ireturn, 1) → PR k n x w → hw_J p l e R s m args below meth c Q 1 g A k n pc lv [.int x] w) {i0 : Nat} (vc : vc_St_coder_0 l g R K PR k n i0 w) : hw_J p l e R s m args below meth c Q 1 g A k n 0 [some (.ref (g.2.2.1 i0))] [] w := by
  unfold vc_St_coder_0 at vc
  refine hw_gets X (gs_St_38 X) dd_St_coder_0 ?_
  refine hw_if_eq X (tgt := 13) dd_St_coder_3 rfl (fun hc => absurd hc (by decide)) (fun _ => ?_)
  refine hw_aload_n X (Or.inr ⟨_, rfl⟩) dd_St_coder_6 rfl ?_
  obtain ⟨h9, vc⟩ := vc
  refine hw_scoder X h9 (gs_St_15 X) dd_St_coder_7 ?_
  refine hw_goto X (tgt := 14) dd_St_coder_10 rfl ?_
  exact rt dd_St_coder_14 vc
end
section
variable {p : Program} {l : Launch} {e : Env} {R : Room} {s : State} {m : MethodId} {args : Array Value} {below : List Frame} {meth : Method} {c : Code} {Q : State → Prop} {g : hw_G} {A : Nat → Prop} {k n : Nat} {w : hw_H}
def vc_St_charAt_0 (l : Launch) (g : hw_G) (R : Room) (K : Nat → Nat → Nat → List (Option Value) → List Value → hw_H → Prop) (PR : Nat → Nat → Int32 → hw_H → Prop) (k n : Nat) (i0 : Nat) (x1 : Int32) (w : hw_H) : Prop := i0 < hw_sN ∧ hw_ci l g R k n ym_St_isLatin1 (mw_St_isLatin1) 1 [.ref (g.2.2.1 i0)] w (fun (k2 n3 : Nat) (x_4 : Int32) (w1 : hw_H) => ((x_4 = 0) → (i0 < hw_sN ∧ (hw_ci l g R k2 n3 ym_Su_charAt (mw_Su_charAt) 2 [.ref (g.2.2.2 i0), .int x1] w1 (fun (k6 n7 : Nat) (x_8 : Int32) (w5 : hw_H) => PR k6 n7 x_8 w5)))) ∧ ((¬ x_4 = 0) → (i0 < hw_sN ∧ (hw_ci l g R k2 n3 ym_Sl_charAt (mw_Sl_charAt) 2 [.ref (g.2.2.2 i0), .int x1] w1 (fun (k10 n11 : Nat) (x_12 : Int32) (w9 : hw_H) => PR k10 n11 x_12 w9)))))
set_option maxHeartbeats 4000000 in
set_option maxRecDepth 100000 in
theorem sg_St_charAt_0 (X : hw_X p m c cb_St_charAt 2 s args (mw_St_charAt) "java/lang/String" g A) {K : Nat → Nat → Nat → List (Option Value) → List Value → hw_H → Prop} {PR : Nat → Nat → Int32 → hw_H → Prop} (hK : ∀ (k n pc : Nat) (lv : List (Option Value)) (st : List Value) (w : hw_H), K k n pc lv st w → hw_J p l e R s m args below meth c Q 2 g A k n pc lv st w) (rt : ∀ {k n pc : Nat} {lv : List (Option Value)} {x : Int32} {w : hw_H}, decode cb_St_charAt pc = .ok (.ireturn, 1) → PR k n x w → hw_J p l e R s m args below meth c Q 2 g A k n pc lv [.int x] w) {i0 : Nat} {x1 : Int32} (vc : vc_St_charAt_0 l g R K PR k n i0 x1 w) : hw_J p l e R s m args below meth c Q 2 g A k n 0 [some (.ref (g.2.2.1 i0)), some (.int x1)] [] w := by
  unfold vc_St_charAt_0 at vc
  refine hw_aload_n X (Or.inr ⟨_, rfl⟩) dd_St_charAt_0 rfl ?_
  obtain ⟨hob, rm9, po9, hM9, hf9, hc9, vc⟩ := vc
  refine hw_callVsi X (As := []) (ye_St_492 X) hM9 rfl hf9 hc9 hob (Nat.le_of_ble_eq_true rfl) rfl dd_St_charAt_1 (fun x_4 w1 hp => ?_)
  replace vc := vc x_4 w1 hp
  refine hw_if_eq X (tgt := 16) dd_St_charAt_4 rfl (fun hc => ?_) (fun hc => ?_)
  · replace vc := vc.1 hc
    refine hw_aload_n X (Or.inr ⟨_, rfl⟩) dd_St_charAt_16 rfl ?_
    obtain ⟨h9, vc⟩ := vc
    refine hw_svalue X h9 (gs_St_9 X) dd_St_charAt_17 ?_
    refine hw_iload_n X dd_St_charAt_20 rfl ?_
    obtain ⟨rm9, po9, hM9, hf9, hc9, vc⟩ := vc
    refine hw_callSi X (As := [.ref (g.2.2.2 i0), .int x1]) (ye_St_498 X) hM9 rfl hf9 hc9 (Nat.le_of_ble_eq_true rfl) rfl dd_St_charAt_21 (fun x_8 w5 hp => ?_)
    replace vc := vc x_8 w5 hp
    exact rt dd_St_charAt_24 vc
  · replace vc := vc.2 hc
    refine hw_aload_n X (Or.inr ⟨_, rfl⟩) dd_St_charAt_7 rfl ?_
    obtain ⟨h9, vc⟩ := vc
    refine hw_svalue X h9 (gs_St_9 X) dd_St_charAt_8 ?_
    refine hw_iload_n X dd_St_charAt_11 rfl ?_
    obtain ⟨rm9, po9, hM9, hf9, hc9, vc⟩ := vc
    refine hw_callSi X (As := [.ref (g.2.2.2 i0), .int x1]) (ye_St_495 X) hM9 rfl hf9 hc9 (Nat.le_of_ble_eq_true rfl) rfl dd_St_charAt_12 (fun x_12 w9 hp => ?_)
    replace vc := vc x_12 w9 hp
    exact rt dd_St_charAt_15 vc
end
section
variable {p : Program} {l : Launch} {e : Env} {R : Room} {s : State} {m : MethodId} {args : Array Value} {below : List Frame} {meth : Method} {c : Code} {Q : State → Prop} {g : hw_G} {A : Nat → Prop} {k n : Nat} {w : hw_H}
def vc_St_isLatin1_0 (l : Launch) (g : hw_G) (R : Room) (K : Nat → Nat → Nat → List (Option Value) → List Value → hw_H → Prop) (PR : Nat → Nat → Int32 → hw_H → Prop) (k n : Nat) (i0 : Nat) (w : hw_H) : Prop := i0 < hw_sN ∧ (PR k n (1 : Int32) w)
set_option maxHeartbeats 4000000 in
set_option maxRecDepth 100000 in
theorem sg_St_isLatin1_0 (X : hw_X p m c cb_St_isLatin1 1 s args (mw_St_isLatin1) "java/lang/String" g A) {K : Nat → Nat → Nat → List (Option Value) → List Value → hw_H → Prop} {PR : Nat → Nat → Int32 → hw_H → Prop} (hK : ∀ (k n pc : Nat) (lv : List (Option Value)) (st : List Value) (w : hw_H), K k n pc lv st w → hw_J p l e R s m args below meth c Q 1 g A k n pc lv st w) (rt : ∀ {k n pc : Nat} {lv : List (Option Value)} {x : Int32} {w : hw_H}, decode cb_St_isLatin1 pc = .ok (.ireturn, 1) → PR k n x w → hw_J p l e R s m args below meth c Q 1 g A k n pc lv [.int x] w) {i0 : Nat} (vc : vc_St_isLatin1_0 l g R K PR k n i0 w) : hw_J p l e R s m args below meth c Q 1 g A k n 0 [some (.ref (g.2.2.1 i0))] [] w := by
  unfold vc_St_isLatin1_0 at vc
  refine hw_gets X (gs_St_38 X) dd_St_isLatin1_0 ?_
  refine hw_if_eq X (tgt := 17) dd_St_isLatin1_3 rfl (fun hc => absurd hc (by decide)) (fun _ => ?_)
  refine hw_aload_n X (Or.inr ⟨_, rfl⟩) dd_St_isLatin1_6 rfl ?_
  obtain ⟨h9, vc⟩ := vc
  refine hw_scoder X h9 (gs_St_15 X) dd_St_isLatin1_7 ?_
  refine hw_if_ne X (tgt := 17) dd_St_isLatin1_10 rfl (fun hc => absurd hc (by decide)) (fun _ => ?_)
  refine hw_iconst X (v := 1) dd_St_isLatin1_13 (by decide) ?_
  refine hw_goto X (tgt := 18) dd_St_isLatin1_14 rfl ?_
  exact rt dd_St_isLatin1_18 vc
end
section
variable {p : Program} {l : Launch} {e : Env} {R : Room} {s : State} {m : MethodId} {args : Array Value} {below : List Frame} {meth : Method} {c : Code} {Q : State → Prop} {g : hw_G} {A : Nat → Prop} {k n : Nat} {w : hw_H}
def vc_St_checkIndex_0 (l : Launch) (g : hw_G) (R : Room) (K : Nat → Nat → Nat → List (Option Value) → List Value → hw_H → Prop) (PR : Nat → Nat → hw_H → Prop) (k n : Nat) (x0 : Int32) (x1 : Int32) (w : hw_H) : Prop := ∀ o_1 : Option Nat, (hw_ci l g R k n ym_Pc_checkIndex (mw_Pc_checkIndex) 3 [.int x0, .int x1, va_rf o_1] w (fun (k3 n4 : Nat) (x_5 : Int32) (w2 : hw_H) => PR k3 n4 w2))
set_option maxHeartbeats 4000000 in
set_option maxRecDepth 100000 in
theorem sg_St_checkIndex_0 (X : hw_X p m c cb_St_checkIndex 2 s args (mw_St_checkIndex) "java/lang/String" g A) {K : Nat → Nat → Nat → List (Option Value) → List Value → hw_H → Prop} {PR : Nat → Nat → hw_H → Prop} (hK : ∀ (k n pc : Nat) (lv : List (Option Value)) (st : List Value) (w : hw_H), K k n pc lv st w → hw_J p l e R s m args below meth c Q 2 g A k n pc lv st w) (rt : ∀ {k n pc : Nat} {lv : List (Option Value)} {w : hw_H}, decode cb_St_checkIndex pc = .ok (.return_, 1) → PR k n w → hw_J p l e R s m args below meth c Q 2 g A k n pc lv [] w) {x0 : Int32} {x1 : Int32} (vc : vc_St_checkIndex_0 l g R K PR k n x0 x1 w) : hw_J p l e R s m args below meth c Q 2 g A k n 0 [some (.int x0), some (.int x1)] [] w := by
  unfold vc_St_checkIndex_0 at vc
  refine hw_iload_n X dd_St_checkIndex_0 rfl ?_
  refine hw_iload_n X dd_St_checkIndex_1 rfl ?_
  refine hw_getsq X (gs_St_1053 X) dd_St_checkIndex_2 (fun o_1 => ?_)
  replace vc := vc o_1
  obtain ⟨rm9, po9, hM9, hf9, hc9, vc⟩ := vc
  refine hw_callSi X (As := [.int x0, .int x1, va_rf o_1]) (ye_St_1059 X) hM9 rfl hf9 hc9 (Nat.le_of_ble_eq_true rfl) rfl dd_St_checkIndex_5 (fun x_5 w2 hp => ?_)
  replace vc := vc x_5 w2 hp
  refine hw_pop X rfl dd_St_checkIndex_8 ?_
  exact rt dd_St_checkIndex_9 vc
end
section
variable {p : Program} {l : Launch} {e : Env} {R : Room} {s : State} {m : MethodId} {args : Array Value} {below : List Frame} {meth : Method} {c : Code} {Q : State → Prop} {g : hw_G} {A : Nat → Prop} {k n : Nat} {w : hw_H}
def vc_Sl_charAt_0 (l : Launch) (g : hw_G) (R : Room) (K : Nat → Nat → Nat → List (Option Value) → List Value → hw_H → Prop) (PR : Nat → Nat → Int32 → hw_H → Prop) (k n : Nat) (j0 : Nat) (x1 : Int32) (w : hw_H) : Prop := j0 < hw_sN ∧ (hw_cv l g R k n ym_St_checkIndex (mw_St_checkIndex) 2 [.int x1, .int (nI (hw_sLen.getD j0 0))] w (fun (k2 n3 : Nat) (w1 : hw_H) => (j0 < hw_sN ∧ vp_in x1 (hw_sLen.getD j0 0)) ∧ ∀ x_4 : Int32, x_4 = (hw_sByt.getD j0 []).getD (x1).toNatClampNeg 0 → (PR k2 n3 ((((x_4 &&& (255 : Int32))).toUInt32 % 65536).toInt32) w1)))
set_option maxHeartbeats 4000000 in
set_option maxRecDepth 100000 in
theorem sg_Sl_charAt_0 (X : hw_X p m c cb_Sl_charAt 2 s args (mw_Sl_charAt) "java/lang/StringLatin1" g A) {K : Nat → Nat → Nat → List (Option Value) → List Value → hw_H → Prop} {PR : Nat → Nat → Int32 → hw_H → Prop} (hK : ∀ (k n pc : Nat) (lv : List (Option Value)) (st : List Value) (w : hw_H), K k n pc lv st w → hw_J p l e R s m args below meth c Q 2 g A k n pc lv st w) (rt : ∀ {k n pc : Nat} {lv : List (Option Value)} {x : Int32} {w : hw_H}, decode cb_Sl_charAt pc = .ok (.ireturn, 1) → PR k n x w → hw_J p l e R s m args below meth c Q 2 g A k n pc lv [.int x] w) {j0 : Nat} {x1 : Int32} (vc : vc_Sl_charAt_0 l g R K PR k n j0 x1 w) : hw_J p l e R s m args below meth c Q 2 g A k n 0 [some (.ref (g.2.2.2 j0)), some (.int x1)] [] w := by
  unfold vc_Sl_charAt_0 at vc
  refine hw_iload_n X dd_Sl_charAt_0 rfl ?_
  refine hw_aload_n X (Or.inr ⟨_, rfl⟩) dd_Sl_charAt_1 rfl ?_
  obtain ⟨h9, vc⟩ := vc
  refine hw_sblen X h9 dd_Sl_charAt_2 ?_
  obtain ⟨rm9, po9, hM9, hf9, hc9, vc⟩ := vc
  refine hw_callSv X (As := [.int x1, .int (nI (hw_sLen.getD j0 0))]) (ye_Sl_9 X) hM9 rfl hf9 hc9 (Nat.le_of_ble_eq_true rfl) rfl dd_Sl_charAt_3 (fun w1 hp => ?_)
  replace vc := vc w1 hp
  refine hw_aload_n X (Or.inr ⟨_, rfl⟩) dd_Sl_charAt_6 rfl ?_
  refine hw_iload_n X dd_Sl_charAt_7 rfl ?_
  refine hw_sbald X vc.1.1 vc.1.2 dd_Sl_charAt_8 ?_
  refine hw_top (fun x_4 ex_4 => ?_)
  replace vc := vc.2 x_4 ex_4
  refine hw_sipush X (v := 255) dd_Sl_charAt_9 (by decide) ?_
  refine hw_iand X dd_Sl_charAt_12 ?_
  refine hw_i2c X dd_Sl_charAt_13 ?_
  exact rt dd_Sl_charAt_14 vc
end
section
variable {p : Program} {l : Launch} {e : Env} {R : Room} {s : State} {m : MethodId} {args : Array Value} {below : List Frame} {meth : Method} {c : Code} {Q : State → Prop} {g : hw_G} {A : Nat → Prop} {k n : Nat} {w : hw_H}
def vc_Pc_checkIndex_0 (l : Launch) (g : hw_G) (R : Room) (K : Nat → Nat → Nat → List (Option Value) → List Value → hw_H → Prop) (PR : Nat → Nat → Int32 → hw_H → Prop) (k n : Nat) (x0 : Int32) (x1 : Int32) (o2 : Option Nat) (w : hw_H) : Prop := ((x0 < 0) → (False)) ∧ ((¬ x0 < 0) → (((x0 < x1) → (PR k n x0 w)) ∧ ((¬ x0 < x1) → (False))))
set_option maxHeartbeats 4000000 in
set_option maxRecDepth 100000 in
theorem sg_Pc_checkIndex_0 (X : hw_X p m c cb_Pc_checkIndex 3 s args (mw_Pc_checkIndex) "jdk/internal/util/Preconditions" g A) {K : Nat → Nat → Nat → List (Option Value) → List Value → hw_H → Prop} {PR : Nat → Nat → Int32 → hw_H → Prop} (hK : ∀ (k n pc : Nat) (lv : List (Option Value)) (st : List Value) (w : hw_H), K k n pc lv st w → hw_J p l e R s m args below meth c Q 3 g A k n pc lv st w) (rt : ∀ {k n pc : Nat} {lv : List (Option Value)} {x : Int32} {w : hw_H}, decode cb_Pc_checkIndex pc = .ok (.ireturn, 1) → PR k n x w → hw_J p l e R s m args below meth c Q 3 g A k n pc lv [.int x] w) {x0 : Int32} {x1 : Int32} {o2 : Option Nat} (vc : vc_Pc_checkIndex_0 l g R K PR k n x0 x1 o2 w) : hw_J p l e R s m args below meth c Q 3 g A k n 0 [some (.int x0), some (.int x1), some (va_rf o2)] [] w := by
  unfold vc_Pc_checkIndex_0 at vc
  refine hw_iload_n X dd_Pc_checkIndex_0 rfl ?_
  refine hw_if_lt X (tgt := 9) dd_Pc_checkIndex_1 rfl (fun hc => ?_) (fun hc => ?_)
  · replace vc := vc.1 hc
    refine hw_aload_n X (va_rf_or _) dd_Pc_checkIndex_9 rfl ?_
    refine hw_iload_n X dd_Pc_checkIndex_10 rfl ?_
    refine hw_iload_n X dd_Pc_checkIndex_11 rfl ?_
    exact vc.elim
  · replace vc := vc.2 hc
    refine hw_iload_n X dd_Pc_checkIndex_4 rfl ?_
    refine hw_iload_n X dd_Pc_checkIndex_5 rfl ?_
    refine hw_icmp_lt X (tgt := 16) dd_Pc_checkIndex_6 rfl (fun hc => ?_) (fun hc => ?_)
    · replace vc := vc.1 hc
      refine hw_iload_n X dd_Pc_checkIndex_16 rfl ?_
      exact rt dd_Pc_checkIndex_17 vc
    · replace vc := vc.2 hc
      refine hw_aload_n X (va_rf_or _) dd_Pc_checkIndex_9 rfl ?_
      refine hw_iload_n X dd_Pc_checkIndex_10 rfl ?_
      refine hw_iload_n X dd_Pc_checkIndex_11 rfl ?_
      exact vc.elim
end
