section
variable {p : Program} {l : Launch} {e : Env} {R : Room} {s : State} {m : MethodId} {args : Array Value} {below : List Frame} {meth : Method} {c : Code} {Q : State → Prop} {g : hw_G} {A : Nat → Prop} {k n : Nat} {w : hw_H}
def vc_Te_byteOf_0 (l : Launch) (g : hw_G) (R : Room) (K : Nat → Nat → Nat → List (Option Value) → List Value → hw_H → Prop) (PR : Nat → Nat → Int32 → hw_H → Prop) (k n : Nat) (x0 : Int32) (x1 : Int32) (w : hw_H) : Prop := PR k n ((x0 >>> (((8 : Int32) * x1) &&& 31)) &&& (255 : Int32)) w
set_option maxHeartbeats 4000000 in
set_option maxRecDepth 100000 in
theorem sg_Te_byteOf_0 (X : hw_X p m c cb_Te_byteOf 2 s args (mw_Te_byteOf) "ProofCourt$Text" g A) {K : Nat → Nat → Nat → List (Option Value) → List Value → hw_H → Prop} {PR : Nat → Nat → Int32 → hw_H → Prop} (hK : ∀ (k n pc : Nat) (lv : List (Option Value)) (st : List Value) (w : hw_H), K k n pc lv st w → hw_J p l e R s m args below meth c Q 2 g A k n pc lv st w) (rt : ∀ {k n pc : Nat} {lv : List (Option Value)} {x : Int32} {w : hw_H}, decode cb_Te_byteOf pc = .ok (.ireturn, 1) → PR k n x w → hw_J p l e R s m args below meth c Q 2 g A k n pc lv [.int x] w) {x0 : Int32} {x1 : Int32} (vc : vc_Te_byteOf_0 l g R K PR k n x0 x1 w) : hw_J p l e R s m args below meth c Q 2 g A k n 0 [some (.int x0), some (.int x1)] [] w := by
  unfold vc_Te_byteOf_0 at vc
  refine hw_iload_n X dd_Te_byteOf_0 rfl ?_
  refine hw_bipush X (v := 8) dd_Te_byteOf_1 (by decide) ?_
  refine hw_iload_n X dd_Te_byteOf_3 rfl ?_
  refine hw_imul X dd_Te_byteOf_4 ?_
  refine hw_ishr X dd_Te_byteOf_5 ?_
  refine hw_sipush X (v := 255) dd_Te_byteOf_6 (by decide) ?_
  refine hw_iand X dd_Te_byteOf_9 ?_
  exact rt dd_Te_byteOf_10 vc
end
section
variable {p : Program} {l : Launch} {e : Env} {R : Room} {s : State} {m : MethodId} {args : Array Value} {below : List Frame} {meth : Method} {c : Code} {Q : State → Prop} {g : hw_G} {A : Nat → Prop} {k n : Nat} {w : hw_H}
def vc_Te_isCharacter_0 (l : Launch) (g : hw_G) (R : Room) (K : Nat → Nat → Nat → List (Option Value) → List Value → hw_H → Prop) (PR : Nat → Nat → Int32 → hw_H → Prop) (k n : Nat) (x0 : Int32) (w : hw_H) : Prop := ((x0 = (10 : Int32)) → (PR k n (1 : Int32) w)) ∧ ((¬ x0 = (10 : Int32)) → (((x0 < (32 : Int32)) → (PR k n (0 : Int32) w)) ∧ ((¬ x0 < (32 : Int32)) → ((((126 : Int32) < x0) → (PR k n (0 : Int32) w)) ∧ ((¬ (126 : Int32) < x0) → (PR k n (1 : Int32) w))))))
set_option maxHeartbeats 4000000 in
set_option maxRecDepth 100000 in
theorem sg_Te_isCharacter_0 (X : hw_X p m c cb_Te_isCharacter 1 s args (mw_Te_isCharacter) "ProofCourt$Text" g A) {K : Nat → Nat → Nat → List (Option Value) → List Value → hw_H → Prop} {PR : Nat → Nat → Int32 → hw_H → Prop} (hK : ∀ (k n pc : Nat) (lv : List (Option Value)) (st : List Value) (w : hw_H), K k n pc lv st w → hw_J p l e R s m args below meth c Q 1 g A k n pc lv st w) (rt : ∀ {k n pc : Nat} {lv : List (Option Value)} {x : Int32} {w : hw_H}, decode cb_Te_isCharacter pc = .ok (.ireturn, 1) → PR k n x w → hw_J p l e R s m args below meth c Q 1 g A k n pc lv [.int x] w) {x0 : Int32} (vc : vc_Te_isCharacter_0 l g R K PR k n x0 w) : hw_J p l e R s m args below meth c Q 1 g A k n 0 [some (.int x0)] [] w := by
  unfold vc_Te_isCharacter_0 at vc
  refine hw_iload_n X dd_Te_isCharacter_0 rfl ?_
  refine hw_bipush X (v := 10) dd_Te_isCharacter_1 (by decide) ?_
  refine hw_icmp_eq X (tgt := 18) dd_Te_isCharacter_3 rfl (fun hc => ?_) (fun hc => ?_)
  · have vc := vc.1 hc
    refine hw_iconst X (v := 1) dd_Te_isCharacter_18 (by decide) ?_
    refine hw_goto X (tgt := 23) dd_Te_isCharacter_19 rfl ?_
    exact rt dd_Te_isCharacter_23 vc
  · have vc := vc.2 hc
    refine hw_iload_n X dd_Te_isCharacter_6 rfl ?_
    refine hw_bipush X (v := 32) dd_Te_isCharacter_7 (by decide) ?_
    refine hw_icmp_lt X (tgt := 22) dd_Te_isCharacter_9 rfl (fun hc => ?_) (fun hc => ?_)
    · have vc := vc.1 hc
      refine hw_iconst X (v := 0) dd_Te_isCharacter_22 (by decide) ?_
      exact rt dd_Te_isCharacter_23 vc
    · have vc := vc.2 hc
      refine hw_iload_n X dd_Te_isCharacter_12 rfl ?_
      refine hw_bipush X (v := 126) dd_Te_isCharacter_13 (by decide) ?_
      refine hw_icmp_gt X (tgt := 22) dd_Te_isCharacter_15 rfl (fun hc => ?_) (fun hc => ?_)
      · have vc := vc.1 hc
        refine hw_iconst X (v := 0) dd_Te_isCharacter_22 (by decide) ?_
        exact rt dd_Te_isCharacter_23 vc
      · have vc := vc.2 hc
        refine hw_iconst X (v := 1) dd_Te_isCharacter_18 (by decide) ?_
        refine hw_goto X (tgt := 23) dd_Te_isCharacter_19 rfl ?_
        exact rt dd_Te_isCharacter_23 vc
end
section
variable {p : Program} {l : Launch} {e : Env} {R : Room} {s : State} {m : MethodId} {args : Array Value} {below : List Frame} {meth : Method} {c : Code} {Q : State → Prop} {g : hw_G} {A : Nat → Prop} {k n : Nat} {w : hw_H}
def vc_Te_isBlank_0 (l : Launch) (g : hw_G) (R : Room) (K : Nat → Nat → Nat → List (Option Value) → List Value → hw_H → Prop) (PR : Nat → Nat → Int32 → hw_H → Prop) (k n : Nat) (x0 : Int32) (w : hw_H) : Prop := ((x0 = (32 : Int32)) → (PR k n (1 : Int32) w)) ∧ ((¬ x0 = (32 : Int32)) → (((¬ x0 = (10 : Int32)) → (PR k n (0 : Int32) w)) ∧ ((x0 = (10 : Int32)) → (PR k n (1 : Int32) w))))
set_option maxHeartbeats 4000000 in
set_option maxRecDepth 100000 in
theorem sg_Te_isBlank_0 (X : hw_X p m c cb_Te_isBlank 1 s args (mw_Te_isBlank) "ProofCourt$Text" g A) {K : Nat → Nat → Nat → List (Option Value) → List Value → hw_H → Prop} {PR : Nat → Nat → Int32 → hw_H → Prop} (hK : ∀ (k n pc : Nat) (lv : List (Option Value)) (st : List Value) (w : hw_H), K k n pc lv st w → hw_J p l e R s m args below meth c Q 1 g A k n pc lv st w) (rt : ∀ {k n pc : Nat} {lv : List (Option Value)} {x : Int32} {w : hw_H}, decode cb_Te_isBlank pc = .ok (.ireturn, 1) → PR k n x w → hw_J p l e R s m args below meth c Q 1 g A k n pc lv [.int x] w) {x0 : Int32} (vc : vc_Te_isBlank_0 l g R K PR k n x0 w) : hw_J p l e R s m args below meth c Q 1 g A k n 0 [some (.int x0)] [] w := by
  unfold vc_Te_isBlank_0 at vc
  refine hw_iload_n X dd_Te_isBlank_0 rfl ?_
  refine hw_bipush X (v := 32) dd_Te_isBlank_1 (by decide) ?_
  refine hw_icmp_eq X (tgt := 12) dd_Te_isBlank_3 rfl (fun hc => ?_) (fun hc => ?_)
  · have vc := vc.1 hc
    refine hw_iconst X (v := 1) dd_Te_isBlank_12 (by decide) ?_
    refine hw_goto X (tgt := 17) dd_Te_isBlank_13 rfl ?_
    exact rt dd_Te_isBlank_17 vc
  · have vc := vc.2 hc
    refine hw_iload_n X dd_Te_isBlank_6 rfl ?_
    refine hw_bipush X (v := 10) dd_Te_isBlank_7 (by decide) ?_
    refine hw_icmp_ne X (tgt := 16) dd_Te_isBlank_9 rfl (fun hc => ?_) (fun hc => ?_)
    · have vc := vc.1 hc
      refine hw_iconst X (v := 0) dd_Te_isBlank_16 (by decide) ?_
      exact rt dd_Te_isBlank_17 vc
    · have vc := vc.2 hc
      refine hw_iconst X (v := 1) dd_Te_isBlank_12 (by decide) ?_
      refine hw_goto X (tgt := 17) dd_Te_isBlank_13 rfl ?_
      exact rt dd_Te_isBlank_17 vc
end
section
variable {p : Program} {l : Launch} {e : Env} {R : Room} {s : State} {m : MethodId} {args : Array Value} {below : List Frame} {meth : Method} {c : Code} {Q : State → Prop} {g : hw_G} {A : Nat → Prop} {k n : Nat} {w : hw_H}
def vc_Te_append_0 (l : Launch) (g : hw_G) (R : Room) (K : Nat → Nat → Nat → List (Option Value) → List Value → hw_H → Prop) (PR : Nat → Nat → Int32 → hw_H → Prop) (k n : Nat) (a0 : Nat) (x1 : Int32) (x2 : Int32) (w : hw_H) : Prop := ((x2 < (1 : Int32)) → (PR k n (0 : Int32) w)) ∧ ((¬ x2 < (1 : Int32)) → ((((4 : Int32) < x2) → (PR k n (0 : Int32) w)) ∧ ((¬ (4 : Int32) < x2) → (∃ x_1 : Int32, hw_g w a0 0 1 (.int x_1) ∧ ((((x_1 + x2) ≤ (160 : Int32)) → (∀ y2 : Int32, y2 = (x2 - (1 : Int32)) → (K k n 28 [some (.ref a0), some (.int x1), some (.int x2), some (.int y2)] [] w))) ∧ ((¬ (x_1 + x2) ≤ (160 : Int32)) → (PR k n (0 : Int32) w)))))))
set_option maxHeartbeats 4000000 in
set_option maxRecDepth 100000 in
theorem sg_Te_append_0 (X : hw_X p m c cb_Te_append 4 s args (mw_Te_append) "ProofCourt$Text" g A) {K : Nat → Nat → Nat → List (Option Value) → List Value → hw_H → Prop} {PR : Nat → Nat → Int32 → hw_H → Prop} (hK : ∀ (k n pc : Nat) (lv : List (Option Value)) (st : List Value) (w : hw_H), K k n pc lv st w → hw_J p l e R s m args below meth c Q 4 g A k n pc lv st w) (rt : ∀ {k n pc : Nat} {lv : List (Option Value)} {x : Int32} {w : hw_H}, decode cb_Te_append pc = .ok (.ireturn, 1) → PR k n x w → hw_J p l e R s m args below meth c Q 4 g A k n pc lv [.int x] w) {a0 : Nat} {x1 : Int32} {x2 : Int32} (vc : vc_Te_append_0 l g R K PR k n a0 x1 x2 w) : hw_J p l e R s m args below meth c Q 4 g A k n 0 [some (.ref a0), some (.int x1), some (.int x2), none] [] w := by
  unfold vc_Te_append_0 at vc
  refine hw_iload_n X dd_Te_append_0 rfl ?_
  refine hw_iconst X (v := 1) dd_Te_append_1 (by decide) ?_
  refine hw_icmp_lt X (tgt := 22) dd_Te_append_2 rfl (fun hc => ?_) (fun hc => ?_)
  · have vc := vc.1 hc
    refine hw_iconst X (v := 0) dd_Te_append_22 (by decide) ?_
    exact rt dd_Te_append_23 vc
  · have vc := vc.2 hc
    refine hw_iload_n X dd_Te_append_5 rfl ?_
    refine hw_iconst X (v := 4) dd_Te_append_6 (by decide) ?_
    refine hw_icmp_gt X (tgt := 22) dd_Te_append_7 rfl (fun hc => ?_) (fun hc => ?_)
    · have vc := vc.1 hc
      refine hw_iconst X (v := 0) dd_Te_append_22 (by decide) ?_
      exact rt dd_Te_append_23 vc
    · have vc := vc.2 hc
      refine hw_aload_n X (Or.inr ⟨_, rfl⟩) dd_Te_append_10 rfl ?_
      obtain ⟨x_1, h9, vc⟩ := vc
      refine hw_get X (fe_Te_15 X) h9 dd_Te_append_11 ?_
      refine hw_iload_n X dd_Te_append_14 rfl ?_
      refine hw_iadd X dd_Te_append_15 ?_
      refine hw_sipush X (v := 160) dd_Te_append_16 (by decide) ?_
      refine hw_icmp_le X (tgt := 24) dd_Te_append_19 rfl (fun hc => ?_) (fun hc => ?_)
      · have vc := vc.1 hc
        refine hw_iload_n X dd_Te_append_24 rfl ?_
        refine hw_iconst X (v := 1) dd_Te_append_25 (by decide) ?_
        refine hw_isub X dd_Te_append_26 ?_
        refine hw_top (fun y2 ey2 => ?_)
        have vc := vc y2 ey2
        refine hw_istore_n X dd_Te_append_27 (by decide) rfl ?_
        exact hK _ _ _ _ _ _ vc
      · have vc := vc.2 hc
        refine hw_iconst X (v := 0) dd_Te_append_22 (by decide) ?_
        exact rt dd_Te_append_23 vc
def vc_Te_append_28 (l : Launch) (g : hw_G) (R : Room) (K : Nat → Nat → Nat → List (Option Value) → List Value → hw_H → Prop) (PR : Nat → Nat → Int32 → hw_H → Prop) (k n : Nat) (a0 : Nat) (x1 : Int32) (x2 : Int32) (x3 : Int32) (w : hw_H) : Prop := ((x3 < 0) → (∀ y1 : Int32, y1 = (x2 - (1 : Int32)) → (K k n 55 [some (.ref a0), some (.int x1), some (.int x2), some (.int y1)] [] w))) ∧ ((¬ x3 < 0) → (hw_ci l g R k n ym_Te_byteOf (mw_Te_byteOf) 2 [.int x1, .int x3] w (fun (k3 n4 : Nat) (x_5 : Int32) (w2 : hw_H) => hw_ci l g R k3 n4 ym_Te_isCharacter (mw_Te_isCharacter) 1 [.int x_5] w2 (fun (k7 n8 : Nat) (x_9 : Int32) (w6 : hw_H) => ((¬ x_9 = 0) → (K k7 n8 28 [some (.ref a0), some (.int x1), some (.int x2), some (.int (x3 + (-1)))] [] w6)) ∧ ((x_9 = 0) → (PR k7 n8 (0 : Int32) w6))))))
set_option maxHeartbeats 4000000 in
set_option maxRecDepth 100000 in
theorem sg_Te_append_28 (X : hw_X p m c cb_Te_append 4 s args (mw_Te_append) "ProofCourt$Text" g A) {K : Nat → Nat → Nat → List (Option Value) → List Value → hw_H → Prop} {PR : Nat → Nat → Int32 → hw_H → Prop} (hK : ∀ (k n pc : Nat) (lv : List (Option Value)) (st : List Value) (w : hw_H), K k n pc lv st w → hw_J p l e R s m args below meth c Q 4 g A k n pc lv st w) (rt : ∀ {k n pc : Nat} {lv : List (Option Value)} {x : Int32} {w : hw_H}, decode cb_Te_append pc = .ok (.ireturn, 1) → PR k n x w → hw_J p l e R s m args below meth c Q 4 g A k n pc lv [.int x] w) {a0 : Nat} {x1 : Int32} {x2 : Int32} {x3 : Int32} (vc : vc_Te_append_28 l g R K PR k n a0 x1 x2 x3 w) : hw_J p l e R s m args below meth c Q 4 g A k n 28 [some (.ref a0), some (.int x1), some (.int x2), some (.int x3)] [] w := by
  unfold vc_Te_append_28 at vc
  refine hw_iload_n X dd_Te_append_28 rfl ?_
  refine hw_if_lt X (tgt := 51) dd_Te_append_29 rfl (fun hc => ?_) (fun hc => ?_)
  · have vc := vc.1 hc
    refine hw_iload_n X dd_Te_append_51 rfl ?_
    refine hw_iconst X (v := 1) dd_Te_append_52 (by decide) ?_
    refine hw_isub X dd_Te_append_53 ?_
    refine hw_top (fun y1 ey1 => ?_)
    have vc := vc y1 ey1
    refine hw_istore_n X dd_Te_append_54 (by decide) rfl ?_
    exact hK _ _ _ _ _ _ vc
  · have vc := vc.2 hc
    refine hw_iload_n X dd_Te_append_32 rfl ?_
    refine hw_iload_n X dd_Te_append_33 rfl ?_
    obtain ⟨rm9, po9, hM9, hf9, hc9, vc⟩ := vc
    refine hw_callSi X (As := [.int x1, .int x3]) (ye_Te_19 X) hM9 rfl hf9 hc9 (Nat.le_of_ble_eq_true rfl) rfl dd_Te_append_34 (fun x_5 w2 hp => ?_)
    have vc := vc x_5 w2 hp
    obtain ⟨rm9, po9, hM9, hf9, hc9, vc⟩ := vc
    refine hw_callSi X (As := [.int x_5]) (ye_Te_23 X) hM9 rfl hf9 hc9 (Nat.le_of_ble_eq_true rfl) rfl dd_Te_append_37 (fun x_9 w6 hp => ?_)
    have vc := vc x_9 w6 hp
    refine hw_if_ne X (tgt := 45) dd_Te_append_40 rfl (fun hc => ?_) (fun hc => ?_)
    · have vc := vc.1 hc
      refine hw_iinc X (v := (x3 + (-1))) dd_Te_append_45 rfl rfl (by decide) rfl ?_
      refine hw_goto X (tgt := 28) dd_Te_append_48 rfl ?_
      exact hK _ _ _ _ _ _ vc
    · have vc := vc.2 hc
      refine hw_iconst X (v := 0) dd_Te_append_43 (by decide) ?_
      exact rt dd_Te_append_44 vc
def vc_Te_append_55 (l : Launch) (g : hw_G) (R : Room) (K : Nat → Nat → Nat → List (Option Value) → List Value → hw_H → Prop) (PR : Nat → Nat → Int32 → hw_H → Prop) (k n : Nat) (a0 : Nat) (x1 : Int32) (x2 : Int32) (x3 : Int32) (w : hw_H) : Prop := ((x3 < 0) → (PR k n (1 : Int32) w)) ∧ ((¬ x3 < 0) → (∃ b_1 : Nat, hw_g w a0 0 0 (.ref b_1) ∧ (∃ x_2 : Int32, hw_g w a0 0 1 (.int x_2) ∧ (hw_ci l g R k n ym_Te_byteOf (mw_Te_byteOf) 2 [.int x1, .int x3] w (fun (k4 n5 : Nat) (x_6 : Int32) (w3 : hw_H) => ∃ w7 : hw_H, hw_as g 1 w3 b_1 x_2 (vp_nar .char (((x_6).toUInt32 % 65536).toInt32)) w7 ∧ (∃ x_8 : Int32, hw_g w7 a0 0 1 (.int x_8) ∧ (∃ w9 : hw_H, hw_p w7 a0 0 1 (.int (x_8 + (1 : Int32))) w9 ∧ (K k4 n5 55 [some (.ref a0), some (.int x1), some (.int x2), some (.int (x3 + (-1)))] [] w9))))))))
set_option maxHeartbeats 4000000 in
set_option maxRecDepth 100000 in
theorem sg_Te_append_55 (X : hw_X p m c cb_Te_append 4 s args (mw_Te_append) "ProofCourt$Text" g A) {K : Nat → Nat → Nat → List (Option Value) → List Value → hw_H → Prop} {PR : Nat → Nat → Int32 → hw_H → Prop} (hK : ∀ (k n pc : Nat) (lv : List (Option Value)) (st : List Value) (w : hw_H), K k n pc lv st w → hw_J p l e R s m args below meth c Q 4 g A k n pc lv st w) (rt : ∀ {k n pc : Nat} {lv : List (Option Value)} {x : Int32} {w : hw_H}, decode cb_Te_append pc = .ok (.ireturn, 1) → PR k n x w → hw_J p l e R s m args below meth c Q 4 g A k n pc lv [.int x] w) {a0 : Nat} {x1 : Int32} {x2 : Int32} {x3 : Int32} (vc : vc_Te_append_55 l g R K PR k n a0 x1 x2 x3 w) : hw_J p l e R s m args below meth c Q 4 g A k n 55 [some (.ref a0), some (.int x1), some (.int x2), some (.int x3)] [] w := by
  unfold vc_Te_append_55 at vc
  refine hw_iload_n X dd_Te_append_55 rfl ?_
  refine hw_if_lt X (tgt := 90) dd_Te_append_56 rfl (fun hc => ?_) (fun hc => ?_)
  · have vc := vc.1 hc
    refine hw_iconst X (v := 1) dd_Te_append_90 (by decide) ?_
    exact rt dd_Te_append_91 vc
  · have vc := vc.2 hc
    refine hw_aload_n X (Or.inr ⟨_, rfl⟩) dd_Te_append_59 rfl ?_
    obtain ⟨b_1, h9, vc⟩ := vc
    refine hw_get X (fe_Te_9 X) h9 dd_Te_append_60 ?_
    refine hw_aload_n X (Or.inr ⟨_, rfl⟩) dd_Te_append_63 rfl ?_
    obtain ⟨x_2, h9, vc⟩ := vc
    refine hw_get X (fe_Te_15 X) h9 dd_Te_append_64 ?_
    refine hw_iload_n X dd_Te_append_67 rfl ?_
    refine hw_iload_n X dd_Te_append_68 rfl ?_
    obtain ⟨rm9, po9, hM9, hf9, hc9, vc⟩ := vc
    refine hw_callSi X (As := [.int x1, .int x3]) (ye_Te_19 X) hM9 rfl hf9 hc9 (Nat.le_of_ble_eq_true rfl) rfl dd_Te_append_69 (fun x_6 w3 hp => ?_)
    have vc := vc x_6 w3 hp
    refine hw_i2c X dd_Te_append_72 ?_
    obtain ⟨w7, h9, vc⟩ := vc
    refine hw_cast X h9 dd_Te_append_73 ?_
    refine hw_aload_n X (Or.inr ⟨_, rfl⟩) dd_Te_append_74 rfl ?_
    refine hw_dup X rfl dd_Te_append_75 ?_
    obtain ⟨x_8, h9, vc⟩ := vc
    refine hw_get X (fe_Te_15 X) h9 dd_Te_append_76 ?_
    refine hw_iconst X (v := 1) dd_Te_append_79 (by decide) ?_
    refine hw_iadd X dd_Te_append_80 ?_
    obtain ⟨w9, h9, vc⟩ := vc
    refine hw_put X (fp_Te_15 X) rfl rfl h9 dd_Te_append_81 ?_
    refine hw_iinc X (v := (x3 + (-1))) dd_Te_append_84 rfl rfl (by decide) rfl ?_
    refine hw_goto X (tgt := 55) dd_Te_append_87 rfl ?_
    exact hK _ _ _ _ _ _ vc
end
section
variable {p : Program} {l : Launch} {e : Env} {R : Room} {s : State} {m : MethodId} {args : Array Value} {below : List Frame} {meth : Method} {c : Code} {Q : State → Prop} {g : hw_G} {A : Nat → Prop} {k n : Nat} {w : hw_H}
def vc_Te_clear_0 (l : Launch) (g : hw_G) (R : Room) (K : Nat → Nat → Nat → List (Option Value) → List Value → hw_H → Prop) (PR : Nat → Nat → hw_H → Prop) (k n : Nat) (a0 : Nat) (w : hw_H) : Prop := ∃ w1 : hw_H, hw_p w a0 0 1 (.int (0 : Int32)) w1 ∧ (PR k n w1)
set_option maxHeartbeats 4000000 in
set_option maxRecDepth 100000 in
theorem sg_Te_clear_0 (X : hw_X p m c cb_Te_clear 1 s args (mw_Te_clear) "ProofCourt$Text" g A) {K : Nat → Nat → Nat → List (Option Value) → List Value → hw_H → Prop} {PR : Nat → Nat → hw_H → Prop} (hK : ∀ (k n pc : Nat) (lv : List (Option Value)) (st : List Value) (w : hw_H), K k n pc lv st w → hw_J p l e R s m args below meth c Q 1 g A k n pc lv st w) (rt : ∀ {k n pc : Nat} {lv : List (Option Value)} {w : hw_H}, decode cb_Te_clear pc = .ok (.return_, 1) → PR k n w → hw_J p l e R s m args below meth c Q 1 g A k n pc lv [] w) {a0 : Nat} (vc : vc_Te_clear_0 l g R K PR k n a0 w) : hw_J p l e R s m args below meth c Q 1 g A k n 0 [some (.ref a0)] [] w := by
  unfold vc_Te_clear_0 at vc
  refine hw_aload_n X (Or.inr ⟨_, rfl⟩) dd_Te_clear_0 rfl ?_
  refine hw_iconst X (v := 0) dd_Te_clear_1 (by decide) ?_
  obtain ⟨w1, h9, vc⟩ := vc
  refine hw_put X (fp_Te_15 X) rfl rfl h9 dd_Te_clear_2 ?_
  exact rt dd_Te_clear_5 vc
end
section
variable {p : Program} {l : Launch} {e : Env} {R : Room} {s : State} {m : MethodId} {args : Array Value} {below : List Frame} {meth : Method} {c : Code} {Q : State → Prop} {g : hw_G} {A : Nat → Prop} {k n : Nat} {w : hw_H}
def vc_In_bitCount_0 (l : Launch) (g : hw_G) (R : Room) (K : Nat → Nat → Nat → List (Option Value) → List Value → hw_H → Prop) (PR : Nat → Nat → Int32 → hw_H → Prop) (k n : Nat) (x0 : Int32) (w : hw_H) : Prop := ∀ y1 : Int32, y1 = (x0 - (((x0).toUInt32 >>> (((1 : Int32)).toUInt32 &&& Int32.toUInt32 31)).toInt32 &&& (1431655765 : Int32))) → (∀ y2 : Int32, y2 = ((y1 &&& (858993459 : Int32)) + (((y1).toUInt32 >>> (((2 : Int32)).toUInt32 &&& Int32.toUInt32 31)).toInt32 &&& (858993459 : Int32))) → (∀ y3 : Int32, y3 = ((y2 + ((y2).toUInt32 >>> (((4 : Int32)).toUInt32 &&& Int32.toUInt32 31)).toInt32) &&& (252645135 : Int32)) → (∀ y4 : Int32, y4 = (y3 + ((y3).toUInt32 >>> (((8 : Int32)).toUInt32 &&& Int32.toUInt32 31)).toInt32) → (∀ y5 : Int32, y5 = (y4 + ((y4).toUInt32 >>> (((16 : Int32)).toUInt32 &&& Int32.toUInt32 31)).toInt32) → (PR k n (y5 &&& (63 : Int32)) w)))))
set_option maxHeartbeats 4000000 in
set_option maxRecDepth 100000 in
theorem sg_In_bitCount_0 (X : hw_X p m c cb_In_bitCount 1 s args (mw_In_bitCount) "java/lang/Integer" g A) {K : Nat → Nat → Nat → List (Option Value) → List Value → hw_H → Prop} {PR : Nat → Nat → Int32 → hw_H → Prop} (hK : ∀ (k n pc : Nat) (lv : List (Option Value)) (st : List Value) (w : hw_H), K k n pc lv st w → hw_J p l e R s m args below meth c Q 1 g A k n pc lv st w) (rt : ∀ {k n pc : Nat} {lv : List (Option Value)} {x : Int32} {w : hw_H}, decode cb_In_bitCount pc = .ok (.ireturn, 1) → PR k n x w → hw_J p l e R s m args below meth c Q 1 g A k n pc lv [.int x] w) {x0 : Int32} (vc : vc_In_bitCount_0 l g R K PR k n x0 w) : hw_J p l e R s m args below meth c Q 1 g A k n 0 [some (.int x0)] [] w := by
  unfold vc_In_bitCount_0 at vc
  refine hw_iload_n X dd_In_bitCount_0 rfl ?_
  refine hw_iload_n X dd_In_bitCount_1 rfl ?_
  refine hw_iconst X (v := 1) dd_In_bitCount_2 (by decide) ?_
  refine hw_iushr X rfl dd_In_bitCount_3 ?_
  refine hw_ldc_w X (kc_In_265 X) dd_In_bitCount_4 ?_
  refine hw_iand X dd_In_bitCount_7 ?_
  refine hw_isub X dd_In_bitCount_8 ?_
  refine hw_top (fun y1 ey1 => ?_)
  have vc := vc y1 ey1
  refine hw_istore_n X dd_In_bitCount_9 (by decide) rfl ?_
  refine hw_iload_n X dd_In_bitCount_10 rfl ?_
  refine hw_ldc_w X (kc_In_266 X) dd_In_bitCount_11 ?_
  refine hw_iand X dd_In_bitCount_14 ?_
  refine hw_iload_n X dd_In_bitCount_15 rfl ?_
  refine hw_iconst X (v := 2) dd_In_bitCount_16 (by decide) ?_
  refine hw_iushr X rfl dd_In_bitCount_17 ?_
  refine hw_ldc_w X (kc_In_266 X) dd_In_bitCount_18 ?_
  refine hw_iand X dd_In_bitCount_21 ?_
  refine hw_iadd X dd_In_bitCount_22 ?_
  refine hw_top (fun y2 ey2 => ?_)
  have vc := vc y2 ey2
  refine hw_istore_n X dd_In_bitCount_23 (by decide) rfl ?_
  refine hw_iload_n X dd_In_bitCount_24 rfl ?_
  refine hw_iload_n X dd_In_bitCount_25 rfl ?_
  refine hw_iconst X (v := 4) dd_In_bitCount_26 (by decide) ?_
  refine hw_iushr X rfl dd_In_bitCount_27 ?_
  refine hw_iadd X dd_In_bitCount_28 ?_
  refine hw_ldc_w X (kc_In_267 X) dd_In_bitCount_29 ?_
  refine hw_iand X dd_In_bitCount_32 ?_
  refine hw_top (fun y3 ey3 => ?_)
  have vc := vc y3 ey3
  refine hw_istore_n X dd_In_bitCount_33 (by decide) rfl ?_
  refine hw_iload_n X dd_In_bitCount_34 rfl ?_
  refine hw_iload_n X dd_In_bitCount_35 rfl ?_
  refine hw_bipush X (v := 8) dd_In_bitCount_36 (by decide) ?_
  refine hw_iushr X rfl dd_In_bitCount_38 ?_
  refine hw_iadd X dd_In_bitCount_39 ?_
  refine hw_top (fun y4 ey4 => ?_)
  have vc := vc y4 ey4
  refine hw_istore_n X dd_In_bitCount_40 (by decide) rfl ?_
  refine hw_iload_n X dd_In_bitCount_41 rfl ?_
  refine hw_iload_n X dd_In_bitCount_42 rfl ?_
  refine hw_bipush X (v := 16) dd_In_bitCount_43 (by decide) ?_
  refine hw_iushr X rfl dd_In_bitCount_45 ?_
  refine hw_iadd X dd_In_bitCount_46 ?_
  refine hw_top (fun y5 ey5 => ?_)
  have vc := vc y5 ey5
  refine hw_istore_n X dd_In_bitCount_47 (by decide) rfl ?_
  refine hw_iload_n X dd_In_bitCount_48 rfl ?_
  refine hw_bipush X (v := 63) dd_In_bitCount_49 (by decide) ?_
  refine hw_iand X dd_In_bitCount_51 ?_
  exact rt dd_In_bitCount_52 vc
end
section
variable {p : Program} {l : Launch} {e : Env} {R : Room} {s : State} {m : MethodId} {args : Array Value} {below : List Frame} {meth : Method} {c : Code} {Q : State → Prop} {g : hw_G} {A : Nat → Prop} {k n : Nat} {w : hw_H}
def vc_Co_bit_0 (l : Launch) (g : hw_G) (R : Room) (K : Nat → Nat → Nat → List (Option Value) → List Value → hw_H → Prop) (PR : Nat → Nat → Int32 → hw_H → Prop) (k n : Nat) (x0 : Int32) (w : hw_H) : Prop := ((¬ x0 = 0) → (((x0 ≤ 0) → (PR k n ((1 : Int32) <<< (((9 : Int32) - x0) &&& 31)) w)) ∧ ((¬ x0 ≤ 0) → (PR k n ((1 : Int32) <<< ((x0 - (1 : Int32)) &&& 31)) w)))) ∧ ((x0 = 0) → (PR k n (0 : Int32) w))
set_option maxHeartbeats 4000000 in
set_option maxRecDepth 100000 in
theorem sg_Co_bit_0 (X : hw_X p m c cb_Co_bit 1 s args (mw_Co_bit) "ProofCourt" g A) {K : Nat → Nat → Nat → List (Option Value) → List Value → hw_H → Prop} {PR : Nat → Nat → Int32 → hw_H → Prop} (hK : ∀ (k n pc : Nat) (lv : List (Option Value)) (st : List Value) (w : hw_H), K k n pc lv st w → hw_J p l e R s m args below meth c Q 1 g A k n pc lv st w) (rt : ∀ {k n pc : Nat} {lv : List (Option Value)} {x : Int32} {w : hw_H}, decode cb_Co_bit pc = .ok (.ireturn, 1) → PR k n x w → hw_J p l e R s m args below meth c Q 1 g A k n pc lv [.int x] w) {x0 : Int32} (vc : vc_Co_bit_0 l g R K PR k n x0 w) : hw_J p l e R s m args below meth c Q 1 g A k n 0 [some (.int x0)] [] w := by
  unfold vc_Co_bit_0 at vc
  refine hw_iload_n X dd_Co_bit_0 rfl ?_
  refine hw_if_ne X (tgt := 6) dd_Co_bit_1 rfl (fun hc => ?_) (fun hc => ?_)
  · have vc := vc.1 hc
    refine hw_iload_n X dd_Co_bit_6 rfl ?_
    refine hw_if_le X (tgt := 18) dd_Co_bit_7 rfl (fun hc => ?_) (fun hc => ?_)
    · have vc := vc.1 hc
      refine hw_iconst X (v := 1) dd_Co_bit_18 (by decide) ?_
      refine hw_bipush X (v := 9) dd_Co_bit_19 (by decide) ?_
      refine hw_iload_n X dd_Co_bit_21 rfl ?_
      refine hw_isub X dd_Co_bit_22 ?_
      refine hw_ishl X dd_Co_bit_23 ?_
      exact rt dd_Co_bit_24 vc
    · have vc := vc.2 hc
      refine hw_iconst X (v := 1) dd_Co_bit_10 (by decide) ?_
      refine hw_iload_n X dd_Co_bit_11 rfl ?_
      refine hw_iconst X (v := 1) dd_Co_bit_12 (by decide) ?_
      refine hw_isub X dd_Co_bit_13 ?_
      refine hw_ishl X dd_Co_bit_14 ?_
      refine hw_goto X (tgt := 24) dd_Co_bit_15 rfl ?_
      exact rt dd_Co_bit_24 vc
  · have vc := vc.2 hc
    refine hw_iconst X (v := 0) dd_Co_bit_4 (by decide) ?_
    exact rt dd_Co_bit_5 vc
end
section
variable {p : Program} {l : Launch} {e : Env} {R : Room} {s : State} {m : MethodId} {args : Array Value} {below : List Frame} {meth : Method} {c : Code} {Q : State → Prop} {g : hw_G} {A : Nat → Prop} {k n : Nat} {w : hw_H}
def vc_Co_opposites_0 (l : Launch) (g : hw_G) (R : Room) (K : Nat → Nat → Nat → List (Option Value) → List Value → hw_H → Prop) (PR : Nat → Nat → Int32 → hw_H → Prop) (k n : Nat) (x0 : Int32) (w : hw_H) : Prop := PR k n (((x0 <<< ((10 : Int32) &&& 31)) ||| (x0 >>> ((10 : Int32) &&& 31))) &&& (1048575 : Int32)) w
set_option maxHeartbeats 4000000 in
set_option maxRecDepth 100000 in
theorem sg_Co_opposites_0 (X : hw_X p m c cb_Co_opposites 1 s args (mw_Co_opposites) "ProofCourt" g A) {K : Nat → Nat → Nat → List (Option Value) → List Value → hw_H → Prop} {PR : Nat → Nat → Int32 → hw_H → Prop} (hK : ∀ (k n pc : Nat) (lv : List (Option Value)) (st : List Value) (w : hw_H), K k n pc lv st w → hw_J p l e R s m args below meth c Q 1 g A k n pc lv st w) (rt : ∀ {k n pc : Nat} {lv : List (Option Value)} {x : Int32} {w : hw_H}, decode cb_Co_opposites pc = .ok (.ireturn, 1) → PR k n x w → hw_J p l e R s m args below meth c Q 1 g A k n pc lv [.int x] w) {x0 : Int32} (vc : vc_Co_opposites_0 l g R K PR k n x0 w) : hw_J p l e R s m args below meth c Q 1 g A k n 0 [some (.int x0)] [] w := by
  unfold vc_Co_opposites_0 at vc
  refine hw_iload_n X dd_Co_opposites_0 rfl ?_
  refine hw_bipush X (v := 10) dd_Co_opposites_1 (by decide) ?_
  refine hw_ishl X dd_Co_opposites_3 ?_
  refine hw_iload_n X dd_Co_opposites_4 rfl ?_
  refine hw_bipush X (v := 10) dd_Co_opposites_5 (by decide) ?_
  refine hw_ishr X dd_Co_opposites_7 ?_
  refine hw_ior X dd_Co_opposites_8 ?_
  refine hw_ldc X (kc_Co_134 X) dd_Co_opposites_9 ?_
  refine hw_iand X dd_Co_opposites_11 ?_
  exact rt dd_Co_opposites_12 vc
end
section
variable {p : Program} {l : Launch} {e : Env} {R : Room} {s : State} {m : MethodId} {args : Array Value} {below : List Frame} {meth : Method} {c : Code} {Q : State → Prop} {g : hw_G} {A : Nat → Prop} {k n : Nat} {w : hw_H}
def vc_Co_follow_0 (l : Launch) (g : hw_G) (R : Room) (K : Nat → Nat → Nat → List (Option Value) → List Value → hw_H → Prop) (PR : Nat → Nat → Int32 → hw_H → Prop) (k n : Nat) (x0 : Int32) (x1 : Int32) (w : hw_H) : Prop := hw_ci l g R k n ym_Co_opposites (mw_Co_opposites) 1 [.int x1] w (fun (k2 n3 : Nat) (x_4 : Int32) (w1 : hw_H) => ∀ y5 : Int32, y5 = (x0 &&& (x_4 ^^^ (-1 : Int32))) → (((¬ y5 = 0) → (hw_ci l g R k2 n3 ym_In_bitCount (mw_In_bitCount) 1 [.int y5] w1 (fun (k7 n8 : Nat) (x_9 : Int32) (w6 : hw_H) => ((¬ x_9 = (1 : Int32)) → (PR k7 n8 (-2 : Int32) w6)) ∧ ((x_9 = (1 : Int32)) → (((¬ (y5 &&& x1) = 0) → (PR k7 n8 (-2 : Int32) w6)) ∧ (((y5 &&& x1) = 0) → (PR k7 n8 (x1 ||| y5) w6))))))) ∧ ((y5 = 0) → (PR k2 n3 (-1 : Int32) w1))))
set_option maxHeartbeats 4000000 in
set_option maxRecDepth 100000 in
theorem sg_Co_follow_0 (X : hw_X p m c cb_Co_follow 3 s args (mw_Co_follow) "ProofCourt" g A) {K : Nat → Nat → Nat → List (Option Value) → List Value → hw_H → Prop} {PR : Nat → Nat → Int32 → hw_H → Prop} (hK : ∀ (k n pc : Nat) (lv : List (Option Value)) (st : List Value) (w : hw_H), K k n pc lv st w → hw_J p l e R s m args below meth c Q 3 g A k n pc lv st w) (rt : ∀ {k n pc : Nat} {lv : List (Option Value)} {x : Int32} {w : hw_H}, decode cb_Co_follow pc = .ok (.ireturn, 1) → PR k n x w → hw_J p l e R s m args below meth c Q 3 g A k n pc lv [.int x] w) {x0 : Int32} {x1 : Int32} (vc : vc_Co_follow_0 l g R K PR k n x0 x1 w) : hw_J p l e R s m args below meth c Q 3 g A k n 0 [some (.int x0), some (.int x1), none] [] w := by
  unfold vc_Co_follow_0 at vc
  refine hw_iload_n X dd_Co_follow_0 rfl ?_
  refine hw_iload_n X dd_Co_follow_1 rfl ?_
  obtain ⟨rm9, po9, hM9, hf9, hc9, vc⟩ := vc
  refine hw_callSi X (As := [.int x1]) (ye_Co_135 X) hM9 rfl hf9 hc9 (Nat.le_of_ble_eq_true rfl) rfl dd_Co_follow_2 (fun x_4 w1 hp => ?_)
  have vc := vc x_4 w1 hp
  refine hw_iconst X (v := -1) dd_Co_follow_5 (by decide) ?_
  refine hw_ixor X dd_Co_follow_6 ?_
  refine hw_iand X dd_Co_follow_7 ?_
  refine hw_top (fun y5 ey5 => ?_)
  have vc := vc y5 ey5
  refine hw_istore_n X dd_Co_follow_8 (by decide) rfl ?_
  refine hw_iload_n X dd_Co_follow_9 rfl ?_
  refine hw_if_ne X (tgt := 15) dd_Co_follow_10 rfl (fun hc => ?_) (fun hc => ?_)
  · have vc := vc.1 hc
    refine hw_iload_n X dd_Co_follow_15 rfl ?_
    obtain ⟨rm9, po9, hM9, hf9, hc9, vc⟩ := vc
    refine hw_callSi X (As := [.int y5]) (ye_Co_98 X) hM9 rfl hf9 hc9 (Nat.le_of_ble_eq_true rfl) rfl dd_Co_follow_16 (fun x_9 w6 hp => ?_)
    have vc := vc x_9 w6 hp
    refine hw_iconst X (v := 1) dd_Co_follow_19 (by decide) ?_
    refine hw_icmp_ne X (tgt := 35) dd_Co_follow_20 rfl (fun hc => ?_) (fun hc => ?_)
    · have vc := vc.1 hc
      refine hw_bipush X (v := -2) dd_Co_follow_35 (by decide) ?_
      exact rt dd_Co_follow_37 vc
    · have vc := vc.2 hc
      refine hw_iload_n X dd_Co_follow_23 rfl ?_
      refine hw_iload_n X dd_Co_follow_24 rfl ?_
      refine hw_iand X dd_Co_follow_25 ?_
      refine hw_if_ne X (tgt := 35) dd_Co_follow_26 rfl (fun hc => ?_) (fun hc => ?_)
      · have vc := vc.1 hc
        refine hw_bipush X (v := -2) dd_Co_follow_35 (by decide) ?_
        exact rt dd_Co_follow_37 vc
      · have vc := vc.2 hc
        refine hw_iload_n X dd_Co_follow_29 rfl ?_
        refine hw_iload_n X dd_Co_follow_30 rfl ?_
        refine hw_ior X dd_Co_follow_31 ?_
        refine hw_goto X (tgt := 37) dd_Co_follow_32 rfl ?_
        exact rt dd_Co_follow_37 vc
  · have vc := vc.2 hc
    refine hw_iconst X (v := -1) dd_Co_follow_13 (by decide) ?_
    exact rt dd_Co_follow_14 vc
end
section
variable {p : Program} {l : Launch} {e : Env} {R : Room} {s : State} {m : MethodId} {args : Array Value} {below : List Frame} {meth : Method} {c : Code} {Q : State → Prop} {g : hw_G} {A : Nat → Prop} {k n : Nat} {w : hw_H}
def vc_Te_init_0 (l : Launch) (g : hw_G) (R : Room) (K : Nat → Nat → Nat → List (Option Value) → List Value → hw_H → Prop) (PR : Nat → Nat → hw_H → Prop) (k n : Nat) (a0 : Nat) (w : hw_H) : Prop := (k + 1 ≤ R.cells ∧ n + 160 ≤ R.slots) ∧ ∀ (q1 : Nat) (w2 : hw_H), w q1 = none → w2 = va_up w q1 (some (.inl (g.2.1 1, 160, .inl (fun _ => 0)))) → (∃ w3 : hw_H, hw_p w2 a0 0 0 (.ref q1) w3 ∧ (PR (k + 1) (n + 160) w3))
set_option maxHeartbeats 4000000 in
set_option maxRecDepth 100000 in
theorem sg_Te_init_0 (X : hw_X p m c cb_Te_init 1 s args (mw_Te_init) "ProofCourt$Text" g A) (hin : meth.name = "<init>") (hRm : 1 ≤ R.frames ∧ 20 ≤ R.locals) {K : Nat → Nat → Nat → List (Option Value) → List Value → hw_H → Prop} {PR : Nat → Nat → hw_H → Prop} (hK : ∀ (k n pc : Nat) (lv : List (Option Value)) (st : List Value) (w : hw_H), K k n pc lv st w → hw_J p l e R s m args below meth c Q 1 g A k n pc lv st w) (rt : ∀ {k n pc : Nat} {lv : List (Option Value)} {w : hw_H}, decode cb_Te_init pc = .ok (.return_, 1) → PR k n w → hw_J p l e R s m args below meth c Q 1 g A k n pc lv [] w) {a0 : Nat} (vc : vc_Te_init_0 l g R K PR k n a0 w) : hw_J p l e R s m args below meth c Q 1 g A k n 0 [some (.ref a0)] [] w := by
  unfold vc_Te_init_0 at vc
  refine hw_aload_n X (Or.inr ⟨_, rfl⟩) dd_Te_init_0 rfl ?_
  refine hw_objInit X (oi_Te_3 X) (oj_Te X) (ok_Te X) (hw_oi1 hRm) (hw_oi2 hRm) (by decide) dd_Te_init_1 ?_
  refine hw_aload_n X (Or.inr ⟨_, rfl⟩) dd_Te_init_4 rfl ?_
  refine hw_sipush X (v := 160) dd_Te_init_5 (by decide) ?_
  refine hw_newa X (t := 1) (N := 160) (ty := .char) (ac_Te_char X) rfl rfl (fun _ z => by cases z) rfl (by decide) (by decide) (by decide) vc.1.1 vc.1.2 dd_Te_init_8 (fun q1 hq => ?_)
  have vc := vc.2 q1 _ hq rfl
  obtain ⟨w3, h9, vc⟩ := vc
  refine hw_putF X (ff_Te_9 X) hin rfl rfl h9 dd_Te_init_10 ?_
  exact rt dd_Te_init_13 vc
end
section
variable {p : Program} {l : Launch} {e : Env} {R : Room} {s : State} {m : MethodId} {args : Array Value} {below : List Frame} {meth : Method} {c : Code} {Q : State → Prop} {g : hw_G} {A : Nat → Prop} {k n : Nat} {w : hw_H}
def vc_Pr_init_0 (l : Launch) (g : hw_G) (R : Room) (K : Nat → Nat → Nat → List (Option Value) → List Value → hw_H → Prop) (PR : Nat → Nat → hw_H → Prop) (k n : Nat) (a0 : Nat) (w : hw_H) : Prop := (k + 1 ≤ R.cells ∧ n + 40 ≤ R.slots) ∧ ∀ (q1 : Nat) (w2 : hw_H), w q1 = none → w2 = va_up w q1 (some (.inl (g.2.1 3, 40, .inr (.inr (.inr (.inr (fun _ => none))))))) → (∃ w3 : hw_H, hw_p w2 a0 1 0 (.ref q1) w3 ∧ (PR (k + 1) (n + 40) w3))
set_option maxHeartbeats 4000000 in
set_option maxRecDepth 100000 in
theorem sg_Pr_init_0 (X : hw_X p m c cb_Pr_init 1 s args (mw_Pr_init) "ProofCourt$Proof" g A) (hin : meth.name = "<init>") (hRm : 1 ≤ R.frames ∧ 20 ≤ R.locals) {K : Nat → Nat → Nat → List (Option Value) → List Value → hw_H → Prop} {PR : Nat → Nat → hw_H → Prop} (hK : ∀ (k n pc : Nat) (lv : List (Option Value)) (st : List Value) (w : hw_H), K k n pc lv st w → hw_J p l e R s m args below meth c Q 1 g A k n pc lv st w) (rt : ∀ {k n pc : Nat} {lv : List (Option Value)} {w : hw_H}, decode cb_Pr_init pc = .ok (.return_, 1) → PR k n w → hw_J p l e R s m args below meth c Q 1 g A k n pc lv [] w) {a0 : Nat} (vc : vc_Pr_init_0 l g R K PR k n a0 w) : hw_J p l e R s m args below meth c Q 1 g A k n 0 [some (.ref a0)] [] w := by
  unfold vc_Pr_init_0 at vc
  refine hw_aload_n X (Or.inr ⟨_, rfl⟩) dd_Pr_init_0 rfl ?_
  refine hw_objInit X (oi_Pr_3 X) (oj_Pr X) (ok_Pr X) (hw_oi1 hRm) (hw_oi2 hRm) (by decide) dd_Pr_init_1 ?_
  refine hw_aload_n X (Or.inr ⟨_, rfl⟩) dd_Pr_init_4 rfl ?_
  refine hw_bipush X (v := 40) dd_Pr_init_5 (by decide) ?_
  refine hw_newq X (N := 40) (cq_Pr_9 X) (co_Pr X) (by decide) (by decide) (by decide) vc.1.1 vc.1.2 dd_Pr_init_7 (fun q1 hq => ?_)
  have vc := vc.2 q1 _ hq rfl
  obtain ⟨w3, h9, vc⟩ := vc
  refine hw_putF X (ff_Pr_11 X) hin rfl rfl h9 dd_Pr_init_10 ?_
  exact rt dd_Pr_init_13 vc
end
section
variable {p : Program} {l : Launch} {e : Env} {R : Room} {s : State} {m : MethodId} {args : Array Value} {below : List Frame} {meth : Method} {c : Code} {Q : State → Prop} {g : hw_G} {A : Nat → Prop} {k n : Nat} {w : hw_H}
def vc_Se_init_0 (l : Launch) (g : hw_G) (R : Room) (K : Nat → Nat → Nat → List (Option Value) → List Value → hw_H → Prop) (PR : Nat → Nat → hw_H → Prop) (k n : Nat) (a0 : Nat) (w : hw_H) : Prop := (k + 1 ≤ R.cells ∧ n + 2072 ≤ R.slots) ∧ ∀ (q1 : Nat) (w2 : hw_H), w q1 = none → w2 = va_up w q1 (some (.inl (g.2.1 0, 2072, .inl (fun _ => 0)))) → (∃ w3 : hw_H, hw_p w2 a0 2 0 (.ref q1) w3 ∧ (((k + 1) + 1 ≤ R.cells ∧ (n + 2072) + 10 ≤ R.slots) ∧ ∀ (q4 : Nat) (w5 : hw_H), w3 q4 = none → w5 = va_up w3 q4 (some (.inl (g.2.1 0, 10, .inl (fun _ => 0)))) → (∃ w6 : hw_H, hw_p w5 a0 2 8 (.ref q4) w6 ∧ ((((k + 1) + 1) + 1 ≤ R.cells ∧ ((n + 2072) + 10) + 10 ≤ R.slots) ∧ ∀ (q7 : Nat) (w8 : hw_H), w6 q7 = none → w8 = va_up w6 q7 (some (.inl (g.2.1 0, 10, .inl (fun _ => 0)))) → (∃ w9 : hw_H, hw_p w8 a0 2 9 (.ref q7) w9 ∧ (((((k + 1) + 1) + 1) + 1 ≤ R.cells ∧ (((n + 2072) + 10) + 10) + 11 ≤ R.slots) ∧ ∀ (q10 : Nat) (w11 : hw_H), w9 q10 = none → w11 = va_up w9 q10 (some (.inl (g.2.1 0, 11, .inl (fun _ => 0)))) → (∃ w12 : hw_H, hw_p w11 a0 2 11 (.ref q10) w12 ∧ ((((((k + 1) + 1) + 1) + 1) + 1 ≤ R.cells ∧ ((((n + 2072) + 10) + 10) + 11) + 11 ≤ R.slots) ∧ ∀ (q13 : Nat) (w14 : hw_H), w12 q13 = none → w14 = va_up w12 q13 (some (.inl (g.2.1 0, 11, .inl (fun _ => 0)))) → (∃ w15 : hw_H, hw_p w14 a0 2 13 (.ref q13) w15 ∧ (PR (((((k + 1) + 1) + 1) + 1) + 1) (((((n + 2072) + 10) + 10) + 11) + 11) w15))))))))))
set_option maxHeartbeats 4000000 in
set_option maxRecDepth 100000 in
theorem sg_Se_init_0 (X : hw_X p m c cb_Se_init 1 s args (mw_Se_init) "ProofCourt$Search" g A) (hin : meth.name = "<init>") (hRm : 1 ≤ R.frames ∧ 20 ≤ R.locals) {K : Nat → Nat → Nat → List (Option Value) → List Value → hw_H → Prop} {PR : Nat → Nat → hw_H → Prop} (hK : ∀ (k n pc : Nat) (lv : List (Option Value)) (st : List Value) (w : hw_H), K k n pc lv st w → hw_J p l e R s m args below meth c Q 1 g A k n pc lv st w) (rt : ∀ {k n pc : Nat} {lv : List (Option Value)} {w : hw_H}, decode cb_Se_init pc = .ok (.return_, 1) → PR k n w → hw_J p l e R s m args below meth c Q 1 g A k n pc lv [] w) {a0 : Nat} (vc : vc_Se_init_0 l g R K PR k n a0 w) : hw_J p l e R s m args below meth c Q 1 g A k n 0 [some (.ref a0)] [] w := by
  unfold vc_Se_init_0 at vc
  refine hw_aload_n X (Or.inr ⟨_, rfl⟩) dd_Se_init_0 rfl ?_
  refine hw_objInit X (oi_Se_3 X) (oj_Se X) (ok_Se X) (hw_oi1 hRm) (hw_oi2 hRm) (by decide) dd_Se_init_1 ?_
  refine hw_aload_n X (Or.inr ⟨_, rfl⟩) dd_Se_init_4 rfl ?_
  refine hw_sipush X (v := 2072) dd_Se_init_5 (by decide) ?_
  refine hw_newa X (t := 0) (N := 2072) (ty := .int) (ac_Se_int X) rfl rfl (fun _ z => by cases z) rfl (by decide) (by decide) (by decide) vc.1.1 vc.1.2 dd_Se_init_8 (fun q1 hq => ?_)
  have vc := vc.2 q1 _ hq rfl
  obtain ⟨w3, h9, vc⟩ := vc
  refine hw_putF X (ff_Se_9 X) hin rfl rfl h9 dd_Se_init_10 ?_
  refine hw_aload_n X (Or.inr ⟨_, rfl⟩) dd_Se_init_13 rfl ?_
  refine hw_bipush X (v := 10) dd_Se_init_14 (by decide) ?_
  refine hw_newa X (t := 0) (N := 10) (ty := .int) (ac_Se_int X) rfl rfl (fun _ z => by cases z) rfl (by decide) (by decide) (by decide) vc.1.1 vc.1.2 dd_Se_init_16 (fun q4 hq => ?_)
  have vc := vc.2 q4 _ hq rfl
  obtain ⟨w6, h9, vc⟩ := vc
  refine hw_putF X (ff_Se_15 X) hin rfl rfl h9 dd_Se_init_18 ?_
  refine hw_aload_n X (Or.inr ⟨_, rfl⟩) dd_Se_init_21 rfl ?_
  refine hw_bipush X (v := 10) dd_Se_init_22 (by decide) ?_
  refine hw_newa X (t := 0) (N := 10) (ty := .int) (ac_Se_int X) rfl rfl (fun _ z => by cases z) rfl (by decide) (by decide) (by decide) vc.1.1 vc.1.2 dd_Se_init_24 (fun q7 hq => ?_)
  have vc := vc.2 q7 _ hq rfl
  obtain ⟨w9, h9, vc⟩ := vc
  refine hw_putF X (ff_Se_18 X) hin rfl rfl h9 dd_Se_init_26 ?_
  refine hw_aload_n X (Or.inr ⟨_, rfl⟩) dd_Se_init_29 rfl ?_
  refine hw_bipush X (v := 11) dd_Se_init_30 (by decide) ?_
  refine hw_newa X (t := 0) (N := 11) (ty := .int) (ac_Se_int X) rfl rfl (fun _ z => by cases z) rfl (by decide) (by decide) (by decide) vc.1.1 vc.1.2 dd_Se_init_32 (fun q10 hq => ?_)
  have vc := vc.2 q10 _ hq rfl
  obtain ⟨w12, h9, vc⟩ := vc
  refine hw_putF X (ff_Se_21 X) hin rfl rfl h9 dd_Se_init_34 ?_
  refine hw_aload_n X (Or.inr ⟨_, rfl⟩) dd_Se_init_37 rfl ?_
  refine hw_bipush X (v := 11) dd_Se_init_38 (by decide) ?_
  refine hw_newa X (t := 0) (N := 11) (ty := .int) (ac_Se_int X) rfl rfl (fun _ z => by cases z) rfl (by decide) (by decide) (by decide) vc.1.1 vc.1.2 dd_Se_init_40 (fun q13 hq => ?_)
  have vc := vc.2 q13 _ hq rfl
  obtain ⟨w15, h9, vc⟩ := vc
  refine hw_putF X (ff_Se_24 X) hin rfl rfl h9 dd_Se_init_42 ?_
  exact rt dd_Se_init_45 vc
end
section
variable {p : Program} {l : Launch} {e : Env} {R : Room} {s : State} {m : MethodId} {args : Array Value} {below : List Frame} {meth : Method} {c : Code} {Q : State → Prop} {g : hw_G} {A : Nat → Prop} {k n : Nat} {w : hw_H}
def vc_Fo_init_0 (l : Launch) (g : hw_G) (R : Room) (K : Nat → Nat → Nat → List (Option Value) → List Value → hw_H → Prop) (PR : Nat → Nat → hw_H → Prop) (k n : Nat) (a0 : Nat) (x1 : Int32) (w : hw_H) : Prop := (k + 1 ≤ R.cells ∧ n + 24 ≤ R.slots) ∧ ∀ (q1 : Nat) (w2 : hw_H), w q1 = none → w2 = va_up w q1 (some (.inl (g.2.1 3, 24, .inr (.inr (.inr (.inr (fun _ => none))))))) → (∃ w3 : hw_H, hw_p w2 a0 3 1 (.ref q1) w3 ∧ (∃ w4 : hw_H, hw_p w3 a0 3 3 (.int (-1 : Int32)) w4 ∧ (∃ w5 : hw_H, hw_p w4 a0 3 0 (.int x1) w5 ∧ (PR (k + 1) (n + 24) w5))))
set_option maxHeartbeats 4000000 in
set_option maxRecDepth 100000 in
theorem sg_Fo_init_0 (X : hw_X p m c cb_Fo_init 2 s args (mw_Fo_init) "ProofCourt$Formula" g A) (hin : meth.name = "<init>") (hRm : 1 ≤ R.frames ∧ 20 ≤ R.locals) {K : Nat → Nat → Nat → List (Option Value) → List Value → hw_H → Prop} {PR : Nat → Nat → hw_H → Prop} (hK : ∀ (k n pc : Nat) (lv : List (Option Value)) (st : List Value) (w : hw_H), K k n pc lv st w → hw_J p l e R s m args below meth c Q 2 g A k n pc lv st w) (rt : ∀ {k n pc : Nat} {lv : List (Option Value)} {w : hw_H}, decode cb_Fo_init pc = .ok (.return_, 1) → PR k n w → hw_J p l e R s m args below meth c Q 2 g A k n pc lv [] w) {a0 : Nat} {x1 : Int32} (vc : vc_Fo_init_0 l g R K PR k n a0 x1 w) : hw_J p l e R s m args below meth c Q 2 g A k n 0 [some (.ref a0), some (.int x1)] [] w := by
  unfold vc_Fo_init_0 at vc
  refine hw_aload_n X (Or.inr ⟨_, rfl⟩) dd_Fo_init_0 rfl ?_
  refine hw_objInit X (oi_Fo_3 X) (oj_Fo X) (ok_Fo X) (hw_oi1 hRm) (hw_oi2 hRm) (by decide) dd_Fo_init_1 ?_
  refine hw_aload_n X (Or.inr ⟨_, rfl⟩) dd_Fo_init_4 rfl ?_
  refine hw_bipush X (v := 24) dd_Fo_init_5 (by decide) ?_
  refine hw_newq X (N := 24) (cq_Fo_9 X) (co_Fo X) (by decide) (by decide) (by decide) vc.1.1 vc.1.2 dd_Fo_init_7 (fun q1 hq => ?_)
  have vc := vc.2 q1 _ hq rfl
  obtain ⟨w3, h9, vc⟩ := vc
  refine hw_putF X (ff_Fo_11 X) hin rfl rfl h9 dd_Fo_init_10 ?_
  refine hw_aload_n X (Or.inr ⟨_, rfl⟩) dd_Fo_init_13 rfl ?_
  refine hw_iconst X (v := -1) dd_Fo_init_14 (by decide) ?_
  obtain ⟨w4, h9, vc⟩ := vc
  refine hw_put X (fp_Fo_17 X) rfl rfl h9 dd_Fo_init_15 ?_
  refine hw_aload_n X (Or.inr ⟨_, rfl⟩) dd_Fo_init_18 rfl ?_
  refine hw_iload_n X dd_Fo_init_19 rfl ?_
  obtain ⟨w5, h9, vc⟩ := vc
  refine hw_putF X (ff_Fo_21 X) hin rfl rfl h9 dd_Fo_init_20 ?_
  exact rt dd_Fo_init_23 vc
end
section
variable {p : Program} {l : Launch} {e : Env} {R : Room} {s : State} {m : MethodId} {args : Array Value} {below : List Frame} {meth : Method} {c : Code} {Q : State → Prop} {g : hw_G} {A : Nat → Prop} {k n : Nat} {w : hw_H}
def vc_Pr_begin_0 (l : Launch) (g : hw_G) (R : Room) (K : Nat → Nat → Nat → List (Option Value) → List Value → hw_H → Prop) (PR : Nat → Nat → hw_H → Prop) (k n : Nat) (a0 : Nat) (a1 : Nat) (w : hw_H) : Prop := K k n 2 [some (.ref a0), some (.ref a1), some (.int (0 : Int32))] [] w
set_option maxHeartbeats 4000000 in
set_option maxRecDepth 100000 in
theorem sg_Pr_begin_0 (X : hw_X p m c cb_Pr_begin 3 s args (mw_Pr_begin) "ProofCourt$Proof" g A) {K : Nat → Nat → Nat → List (Option Value) → List Value → hw_H → Prop} {PR : Nat → Nat → hw_H → Prop} (hK : ∀ (k n pc : Nat) (lv : List (Option Value)) (st : List Value) (w : hw_H), K k n pc lv st w → hw_J p l e R s m args below meth c Q 3 g A k n pc lv st w) (rt : ∀ {k n pc : Nat} {lv : List (Option Value)} {w : hw_H}, decode cb_Pr_begin pc = .ok (.return_, 1) → PR k n w → hw_J p l e R s m args below meth c Q 3 g A k n pc lv [] w) {a0 : Nat} {a1 : Nat} (vc : vc_Pr_begin_0 l g R K PR k n a0 a1 w) : hw_J p l e R s m args below meth c Q 3 g A k n 0 [some (.ref a0), some (.ref a1), none] [] w := by
  unfold vc_Pr_begin_0 at vc
  refine hw_iconst X (v := 0) dd_Pr_begin_0 (by decide) ?_
  refine hw_istore_n X dd_Pr_begin_1 (by decide) rfl ?_
  exact hK _ _ _ _ _ _ vc
def vc_Pr_begin_2 (l : Launch) (g : hw_G) (R : Room) (K : Nat → Nat → Nat → List (Option Value) → List Value → hw_H → Prop) (PR : Nat → Nat → hw_H → Prop) (k n : Nat) (a0 : Nat) (a1 : Nat) (x2 : Int32) (w : hw_H) : Prop := ∃ x_1 : Int32, hw_g w a1 3 2 (.int x_1) ∧ (((x_1 ≤ x2) → (∃ x_2 : Int32, hw_g w a1 3 2 (.int x_2) ∧ (∃ w3 : hw_H, hw_p w a0 1 1 (.int x_2) w3 ∧ (∃ x_4 : Int32, hw_g w3 a1 3 2 (.int x_4) ∧ (∃ w5 : hw_H, hw_p w3 a0 1 2 (.int x_4) w5 ∧ (∃ w6 : hw_H, hw_p w5 a0 1 3 (.int (0 : Int32)) w6 ∧ hw_b (0 : Int32) ∧ (PR k n w6))))))) ∧ ((¬ x_1 ≤ x2) → (∃ b_7 : Nat, hw_g w a0 1 0 (.ref b_7) ∧ (∃ b_8 : Nat, hw_g w a1 3 1 (.ref b_8) ∧ (∃ b_9 : Nat, hw_ar g w b_8 x2 (some b_9) ∧ (∃ w10 : hw_H, hw_aw g 5 w b_7 x2 b_9 w10 ∧ (K k n 2 [some (.ref a0), some (.ref a1), some (.int (x2 + 1))] [] w10)))))))
set_option maxHeartbeats 4000000 in
set_option maxRecDepth 100000 in
theorem sg_Pr_begin_2 (X : hw_X p m c cb_Pr_begin 3 s args (mw_Pr_begin) "ProofCourt$Proof" g A) {K : Nat → Nat → Nat → List (Option Value) → List Value → hw_H → Prop} {PR : Nat → Nat → hw_H → Prop} (hK : ∀ (k n pc : Nat) (lv : List (Option Value)) (st : List Value) (w : hw_H), K k n pc lv st w → hw_J p l e R s m args below meth c Q 3 g A k n pc lv st w) (rt : ∀ {k n pc : Nat} {lv : List (Option Value)} {w : hw_H}, decode cb_Pr_begin pc = .ok (.return_, 1) → PR k n w → hw_J p l e R s m args below meth c Q 3 g A k n pc lv [] w) {a0 : Nat} {a1 : Nat} {x2 : Int32} (vc : vc_Pr_begin_2 l g R K PR k n a0 a1 x2 w) : hw_J p l e R s m args below meth c Q 3 g A k n 2 [some (.ref a0), some (.ref a1), some (.int x2)] [] w := by
  unfold vc_Pr_begin_2 at vc
  refine hw_iload_n X dd_Pr_begin_2 rfl ?_
  refine hw_aload_n X (Or.inr ⟨_, rfl⟩) dd_Pr_begin_3 rfl ?_
  obtain ⟨x_1, h9, vc⟩ := vc
  refine hw_get X (fe_Pr_17 X) h9 dd_Pr_begin_4 ?_
  refine hw_icmp_ge X (tgt := 28) dd_Pr_begin_7 rfl (fun hc => ?_) (fun hc => ?_)
  · have vc := vc.1 hc
    refine hw_aload_n X (Or.inr ⟨_, rfl⟩) dd_Pr_begin_28 rfl ?_
    refine hw_aload_n X (Or.inr ⟨_, rfl⟩) dd_Pr_begin_29 rfl ?_
    obtain ⟨x_2, h9, vc⟩ := vc
    refine hw_get X (fe_Pr_17 X) h9 dd_Pr_begin_30 ?_
    obtain ⟨w3, h9, vc⟩ := vc
    refine hw_put X (fp_Pr_24 X) rfl rfl h9 dd_Pr_begin_33 ?_
    refine hw_aload_n X (Or.inr ⟨_, rfl⟩) dd_Pr_begin_36 rfl ?_
    refine hw_aload_n X (Or.inr ⟨_, rfl⟩) dd_Pr_begin_37 rfl ?_
    obtain ⟨x_4, h9, vc⟩ := vc
    refine hw_get X (fe_Pr_17 X) h9 dd_Pr_begin_38 ?_
    obtain ⟨w5, h9, vc⟩ := vc
    refine hw_put X (fp_Pr_25 X) rfl rfl h9 dd_Pr_begin_41 ?_
    refine hw_aload_n X (Or.inr ⟨_, rfl⟩) dd_Pr_begin_44 rfl ?_
    refine hw_iconst X (v := 0) dd_Pr_begin_45 (by decide) ?_
    obtain ⟨w6, h9, h8, vc⟩ := vc
    refine hw_put X (fp_Pr_28 X) (hw_b_nar h8) (hw_b_fit h8) h9 dd_Pr_begin_46 ?_
    exact rt dd_Pr_begin_49 vc
  · have vc := vc.2 hc
    refine hw_aload_n X (Or.inr ⟨_, rfl⟩) dd_Pr_begin_10 rfl ?_
    obtain ⟨b_7, h9, vc⟩ := vc
    refine hw_get X (fe_Pr_11 X) h9 dd_Pr_begin_11 ?_
    refine hw_iload_n X dd_Pr_begin_14 rfl ?_
    refine hw_aload_n X (Or.inr ⟨_, rfl⟩) dd_Pr_begin_15 rfl ?_
    obtain ⟨b_8, h9, vc⟩ := vc
    refine hw_get X (fe_Pr_23 X) h9 dd_Pr_begin_16 ?_
    refine hw_iload_n X dd_Pr_begin_19 rfl ?_
    obtain ⟨b_9, h9, vc⟩ := vc
    refine hw_aald X h9 dd_Pr_begin_20 ?_
    obtain ⟨w10, h9, vc⟩ := vc
    refine hw_aast X (ci := 5) rfl rfl h9 dd_Pr_begin_21 ?_
    refine hw_iinc X (v := (x2 + 1)) dd_Pr_begin_22 rfl rfl (by decide) rfl ?_
    refine hw_goto X (tgt := 2) dd_Pr_begin_25 rfl ?_
    exact hK _ _ _ _ _ _ vc
end
section
variable {p : Program} {l : Launch} {e : Env} {R : Room} {s : State} {m : MethodId} {args : Array Value} {below : List Frame} {meth : Method} {c : Code} {Q : State → Prop} {g : hw_G} {A : Nat → Prop} {k n : Nat} {w : hw_H}
def vc_Se_begin_0 (l : Launch) (g : hw_G) (R : Room) (K : Nat → Nat → Nat → List (Option Value) → List Value → hw_H → Prop) (PR : Nat → Nat → hw_H → Prop) (k n : Nat) (a0 : Nat) (a1 : Nat) (w : hw_H) : Prop := ∃ x_1 : Int32, hw_g w a1 3 2 (.int x_1) ∧ (∃ w2 : hw_H, hw_p w a0 2 1 (.int x_1) w2 ∧ (K k n 10 [some (.ref a0), some (.ref a1), some (.int (0 : Int32))] [] w2))
set_option maxHeartbeats 4000000 in
set_option maxRecDepth 100000 in
theorem sg_Se_begin_0 (X : hw_X p m c cb_Se_begin 3 s args (mw_Se_begin) "ProofCourt$Search" g A) {K : Nat → Nat → Nat → List (Option Value) → List Value → hw_H → Prop} {PR : Nat → Nat → hw_H → Prop} (hK : ∀ (k n pc : Nat) (lv : List (Option Value)) (st : List Value) (w : hw_H), K k n pc lv st w → hw_J p l e R s m args below meth c Q 3 g A k n pc lv st w) (rt : ∀ {k n pc : Nat} {lv : List (Option Value)} {w : hw_H}, decode cb_Se_begin pc = .ok (.return_, 1) → PR k n w → hw_J p l e R s m args below meth c Q 3 g A k n pc lv [] w) {a0 : Nat} {a1 : Nat} (vc : vc_Se_begin_0 l g R K PR k n a0 a1 w) : hw_J p l e R s m args below meth c Q 3 g A k n 0 [some (.ref a0), some (.ref a1), none] [] w := by
  unfold vc_Se_begin_0 at vc
  refine hw_aload_n X (Or.inr ⟨_, rfl⟩) dd_Se_begin_0 rfl ?_
  refine hw_aload_n X (Or.inr ⟨_, rfl⟩) dd_Se_begin_1 rfl ?_
  obtain ⟨x_1, h9, vc⟩ := vc
  refine hw_get X (fe_Se_27 X) h9 dd_Se_begin_2 ?_
  obtain ⟨w2, h9, vc⟩ := vc
  refine hw_put X (fp_Se_33 X) rfl rfl h9 dd_Se_begin_5 ?_
  refine hw_iconst X (v := 0) dd_Se_begin_8 (by decide) ?_
  refine hw_istore_n X dd_Se_begin_9 (by decide) rfl ?_
  exact hK _ _ _ _ _ _ vc
def vc_Se_begin_10 (l : Launch) (g : hw_G) (R : Room) (K : Nat → Nat → Nat → List (Option Value) → List Value → hw_H → Prop) (PR : Nat → Nat → hw_H → Prop) (k n : Nat) (a0 : Nat) (a1 : Nat) (x2 : Int32) (w : hw_H) : Prop := ∃ x_1 : Int32, hw_g w a0 2 1 (.int x_1) ∧ (((x_1 ≤ x2) → (∃ x_2 : Int32, hw_g w a1 3 0 (.int x_2) ∧ (∃ w3 : hw_H, hw_p w a0 2 2 (.int x_2) w3 ∧ (∃ w4 : hw_H, hw_p w3 a0 2 3 (.int (0 : Int32)) w4 ∧ hw_b (0 : Int32) ∧ (∃ w5 : hw_H, hw_p w4 a0 2 4 (.int (0 : Int32)) w5 ∧ hw_b (0 : Int32) ∧ (∃ w6 : hw_H, hw_p w5 a0 2 5 (.int (0 : Int32)) w6 ∧ hw_b (0 : Int32) ∧ (∃ w7 : hw_H, hw_p w6 a0 2 6 (.int (1 : Int32)) w7 ∧ hw_b (1 : Int32) ∧ (∃ w8 : hw_H, hw_p w7 a0 2 7 (.int (0 : Int32)) w8 ∧ (∃ w9 : hw_H, hw_p w8 a0 2 10 (.int (0 : Int32)) w9 ∧ (∃ w10 : hw_H, hw_p w9 a0 2 12 (.int (0 : Int32)) w10 ∧ (PR k n w10))))))))))) ∧ ((¬ x_1 ≤ x2) → (∃ b_11 : Nat, hw_g w a0 2 0 (.ref b_11) ∧ (∃ b_12 : Nat, hw_g w a1 3 1 (.ref b_12) ∧ (∃ b_13 : Nat, hw_ar g w b_12 x2 (some b_13) ∧ (∃ x_14 : Int32, hw_g w b_13 5 3 (.int x_14) ∧ (∃ w15 : hw_H, hw_as g 0 w b_11 x2 x_14 w15 ∧ (K k n 10 [some (.ref a0), some (.ref a1), some (.int (x2 + 1))] [] w15))))))))
set_option maxHeartbeats 4000000 in
set_option maxRecDepth 100000 in
theorem sg_Se_begin_10 (X : hw_X p m c cb_Se_begin 3 s args (mw_Se_begin) "ProofCourt$Search" g A) {K : Nat → Nat → Nat → List (Option Value) → List Value → hw_H → Prop} {PR : Nat → Nat → hw_H → Prop} (hK : ∀ (k n pc : Nat) (lv : List (Option Value)) (st : List Value) (w : hw_H), K k n pc lv st w → hw_J p l e R s m args below meth c Q 3 g A k n pc lv st w) (rt : ∀ {k n pc : Nat} {lv : List (Option Value)} {w : hw_H}, decode cb_Se_begin pc = .ok (.return_, 1) → PR k n w → hw_J p l e R s m args below meth c Q 3 g A k n pc lv [] w) {a0 : Nat} {a1 : Nat} {x2 : Int32} (vc : vc_Se_begin_10 l g R K PR k n a0 a1 x2 w) : hw_J p l e R s m args below meth c Q 3 g A k n 10 [some (.ref a0), some (.ref a1), some (.int x2)] [] w := by
  unfold vc_Se_begin_10 at vc
  refine hw_iload_n X dd_Se_begin_10 rfl ?_
  refine hw_aload_n X (Or.inr ⟨_, rfl⟩) dd_Se_begin_11 rfl ?_
  obtain ⟨x_1, h9, vc⟩ := vc
  refine hw_get X (fe_Se_33 X) h9 dd_Se_begin_12 ?_
  refine hw_icmp_ge X (tgt := 39) dd_Se_begin_15 rfl (fun hc => ?_) (fun hc => ?_)
  · have vc := vc.1 hc
    refine hw_aload_n X (Or.inr ⟨_, rfl⟩) dd_Se_begin_39 rfl ?_
    refine hw_aload_n X (Or.inr ⟨_, rfl⟩) dd_Se_begin_40 rfl ?_
    obtain ⟨x_2, h9, vc⟩ := vc
    refine hw_get X (fe_Se_42 X) h9 dd_Se_begin_41 ?_
    obtain ⟨w3, h9, vc⟩ := vc
    refine hw_put X (fp_Se_45 X) rfl rfl h9 dd_Se_begin_44 ?_
    refine hw_aload_n X (Or.inr ⟨_, rfl⟩) dd_Se_begin_47 rfl ?_
    refine hw_iconst X (v := 0) dd_Se_begin_48 (by decide) ?_
    obtain ⟨w4, h9, h8, vc⟩ := vc
    refine hw_put X (fp_Se_46 X) (hw_b_nar h8) (hw_b_fit h8) h9 dd_Se_begin_49 ?_
    refine hw_aload_n X (Or.inr ⟨_, rfl⟩) dd_Se_begin_52 rfl ?_
    refine hw_iconst X (v := 0) dd_Se_begin_53 (by decide) ?_
    obtain ⟨w5, h9, h8, vc⟩ := vc
    refine hw_put X (fp_Se_50 X) (hw_b_nar h8) (hw_b_fit h8) h9 dd_Se_begin_54 ?_
    refine hw_aload_n X (Or.inr ⟨_, rfl⟩) dd_Se_begin_57 rfl ?_
    refine hw_iconst X (v := 0) dd_Se_begin_58 (by decide) ?_
    obtain ⟨w6, h9, h8, vc⟩ := vc
    refine hw_put X (fp_Se_53 X) (hw_b_nar h8) (hw_b_fit h8) h9 dd_Se_begin_59 ?_
    refine hw_aload_n X (Or.inr ⟨_, rfl⟩) dd_Se_begin_62 rfl ?_
    refine hw_iconst X (v := 1) dd_Se_begin_63 (by decide) ?_
    obtain ⟨w7, h9, h8, vc⟩ := vc
    refine hw_put X (fp_Se_56 X) (hw_b_nar h8) (hw_b_fit h8) h9 dd_Se_begin_64 ?_
    refine hw_aload_n X (Or.inr ⟨_, rfl⟩) dd_Se_begin_67 rfl ?_
    refine hw_iconst X (v := 0) dd_Se_begin_68 (by decide) ?_
    obtain ⟨w8, h9, vc⟩ := vc
    refine hw_put X (fp_Se_59 X) rfl rfl h9 dd_Se_begin_69 ?_
    refine hw_aload_n X (Or.inr ⟨_, rfl⟩) dd_Se_begin_72 rfl ?_
    refine hw_iconst X (v := 0) dd_Se_begin_73 (by decide) ?_
    obtain ⟨w9, h9, vc⟩ := vc
    refine hw_put X (fp_Se_62 X) rfl rfl h9 dd_Se_begin_74 ?_
    refine hw_aload_n X (Or.inr ⟨_, rfl⟩) dd_Se_begin_77 rfl ?_
    refine hw_iconst X (v := 0) dd_Se_begin_78 (by decide) ?_
    obtain ⟨w10, h9, vc⟩ := vc
    refine hw_put X (fp_Se_65 X) rfl rfl h9 dd_Se_begin_79 ?_
    exact rt dd_Se_begin_82 vc
  · have vc := vc.2 hc
    refine hw_aload_n X (Or.inr ⟨_, rfl⟩) dd_Se_begin_18 rfl ?_
    obtain ⟨b_11, h9, vc⟩ := vc
    refine hw_get X (fe_Se_9 X) h9 dd_Se_begin_19 ?_
    refine hw_iload_n X dd_Se_begin_22 rfl ?_
    refine hw_aload_n X (Or.inr ⟨_, rfl⟩) dd_Se_begin_23 rfl ?_
    obtain ⟨b_12, h9, vc⟩ := vc
    refine hw_get X (fe_Se_34 X) h9 dd_Se_begin_24 ?_
    refine hw_iload_n X dd_Se_begin_27 rfl ?_
    obtain ⟨b_13, h9, vc⟩ := vc
    refine hw_aald X h9 dd_Se_begin_28 ?_
    obtain ⟨x_14, h9, vc⟩ := vc
    refine hw_get X (fe_Se_37 X) h9 dd_Se_begin_29 ?_
    obtain ⟨w15, h9, vc⟩ := vc
    refine hw_iast X h9 dd_Se_begin_32 ?_
    refine hw_iinc X (v := (x2 + 1)) dd_Se_begin_33 rfl rfl (by decide) rfl ?_
    refine hw_goto X (tgt := 10) dd_Se_begin_36 rfl ?_
    exact hK _ _ _ _ _ _ vc
end
section
variable {p : Program} {l : Launch} {e : Env} {R : Room} {s : State} {m : MethodId} {args : Array Value} {below : List Frame} {meth : Method} {c : Code} {Q : State → Prop} {g : hw_G} {A : Nat → Prop} {k n : Nat} {w : hw_H}
def vc_Co_take_0 (l : Launch) (g : hw_G) (R : Room) (K : Nat → Nat → Nat → List (Option Value) → List Value → hw_H → Prop) (PR : Nat → Nat → hw_H → Prop) (k n : Nat) (a0 : Nat) (a1 : Nat) (w : hw_H) : Prop := ∃ w1 : hw_H, hw_p w a0 4 3 (.ref a1) w1 ∧ (∃ b_2 : Nat, hw_g w1 a0 4 1 (.ref b_2) ∧ (hw_o w1 b_2 "ProofCourt$Proof" ∧ hw_cv l g R k n ym_Pr_begin (mw_Pr_begin) 3 [.ref b_2, .ref a1] w1 (fun (k4 n5 : Nat) (w3 : hw_H) => ∃ b_6 : Nat, hw_g w3 a0 4 2 (.ref b_6) ∧ (hw_o w3 b_6 "ProofCourt$Search" ∧ hw_cv l g R k4 n5 ym_Se_begin (mw_Se_begin) 3 [.ref b_6, .ref a1] w3 (fun (k8 n9 : Nat) (w7 : hw_H) => PR k8 n9 w7)))))
set_option maxHeartbeats 4000000 in
set_option maxRecDepth 100000 in
theorem sg_Co_take_0 (X : hw_X p m c cb_Co_take 2 s args (mw_Co_take) "ProofCourt" g A) {K : Nat → Nat → Nat → List (Option Value) → List Value → hw_H → Prop} {PR : Nat → Nat → hw_H → Prop} (hK : ∀ (k n pc : Nat) (lv : List (Option Value)) (st : List Value) (w : hw_H), K k n pc lv st w → hw_J p l e R s m args below meth c Q 2 g A k n pc lv st w) (rt : ∀ {k n pc : Nat} {lv : List (Option Value)} {w : hw_H}, decode cb_Co_take pc = .ok (.return_, 1) → PR k n w → hw_J p l e R s m args below meth c Q 2 g A k n pc lv [] w) {a0 : Nat} {a1 : Nat} (vc : vc_Co_take_0 l g R K PR k n a0 a1 w) : hw_J p l e R s m args below meth c Q 2 g A k n 0 [some (.ref a0), some (.ref a1)] [] w := by
  unfold vc_Co_take_0 at vc
  refine hw_aload_n X (Or.inr ⟨_, rfl⟩) dd_Co_take_0 rfl ?_
  refine hw_aload_n X (Or.inr ⟨_, rfl⟩) dd_Co_take_1 rfl ?_
  obtain ⟨w1, h9, vc⟩ := vc
  refine hw_put X (fp_Co_57 X) rfl rfl h9 dd_Co_take_2 ?_
  refine hw_aload_n X (Or.inr ⟨_, rfl⟩) dd_Co_take_5 rfl ?_
  obtain ⟨b_2, h9, vc⟩ := vc
  refine hw_get X (fe_Co_19 X) h9 dd_Co_take_6 ?_
  refine hw_aload_n X (Or.inr ⟨_, rfl⟩) dd_Co_take_9 rfl ?_
  obtain ⟨hob, rm9, po9, hM9, hf9, hc9, vc⟩ := vc
  refine hw_callVv X (As := [.ref a1]) (ye_Co_130 X) hM9 rfl hf9 hc9 hob (Nat.le_of_ble_eq_true rfl) rfl dd_Co_take_10 (fun w3 hp => ?_)
  have vc := vc w3 hp
  refine hw_aload_n X (Or.inr ⟨_, rfl⟩) dd_Co_take_13 rfl ?_
  obtain ⟨b_6, h9, vc⟩ := vc
  refine hw_get X (fe_Co_26 X) h9 dd_Co_take_14 ?_
  refine hw_aload_n X (Or.inr ⟨_, rfl⟩) dd_Co_take_17 rfl ?_
  obtain ⟨hob, rm9, po9, hM9, hf9, hc9, vc⟩ := vc
  refine hw_callVv X (As := [.ref a1]) (ye_Co_133 X) hM9 rfl hf9 hc9 hob (Nat.le_of_ble_eq_true rfl) rfl dd_Co_take_18 (fun w7 hp => ?_)
  have vc := vc w7 hp
  exact rt dd_Co_take_21 vc
end
section
variable {p : Program} {l : Launch} {e : Env} {R : Room} {s : State} {m : MethodId} {args : Array Value} {below : List Frame} {meth : Method} {c : Code} {Q : State → Prop} {g : hw_G} {A : Nat → Prop} {k n : Nat} {w : hw_H}
def vc_Co_init_0 (l : Launch) (g : hw_G) (R : Room) (K : Nat → Nat → Nat → List (Option Value) → List Value → hw_H → Prop) (PR : Nat → Nat → hw_H → Prop) (k n : Nat) (a0 : Nat) (w : hw_H) : Prop := (k + 1 ≤ R.cells ∧ n + 6 ≤ R.slots) ∧ ∀ (q1 : Nat) (w2 : hw_H), w q1 = none → w2 = va_up w q1 (some (.inr (0, [.null, .int 0, .int 0, .int 0, .int 0, .int 0]))) → (hw_cv l g R (k + 1) (n + 6) ym_Te_init (mw_Te_init) 1 [.ref q1] w2 (fun (k4 n5 : Nat) (w3 : hw_H) => ∃ w6 : hw_H, hw_p w3 a0 4 0 (.ref q1) w6 ∧ ((k4 + 1 ≤ R.cells ∧ n5 + 4 ≤ R.slots) ∧ ∀ (q7 : Nat) (w8 : hw_H), w6 q7 = none → w8 = va_up w6 q7 (some (.inr (1, [.null, .int 0, .int 0, .int 0]))) → (hw_cv l g R (k4 + 1) (n5 + 4) ym_Pr_init (mw_Pr_init) 1 [.ref q7] w8 (fun (k10 n11 : Nat) (w9 : hw_H) => ∃ w12 : hw_H, hw_p w9 a0 4 1 (.ref q7) w12 ∧ ((k10 + 1 ≤ R.cells ∧ n11 + 15 ≤ R.slots) ∧ ∀ (q13 : Nat) (w14 : hw_H), w12 q13 = none → w14 = va_up w12 q13 (some (.inr (2, [.null, .int 0, .int 0, .int 0, .int 0, .int 0, .int 0, .int 0, .null, .null, .int 0, .null, .int 0, .null, .int 0]))) → (hw_cv l g R (k10 + 1) (n11 + 15) ym_Se_init (mw_Se_init) 1 [.ref q13] w14 (fun (k16 n17 : Nat) (w15 : hw_H) => ∃ w18 : hw_H, hw_p w15 a0 4 2 (.ref q13) w18 ∧ ((k16 + 1 ≤ R.cells ∧ n17 + 4 ≤ R.slots) ∧ ∀ (q19 : Nat) (w20 : hw_H), w18 q19 = none → w20 = va_up w18 q19 (some (.inr (3, [.int 0, .null, .int 0, .int 0]))) → (hw_cv l g R (k16 + 1) (n17 + 4) ym_Fo_init (mw_Fo_init) 2 [.ref q19, .int (0 : Int32)] w20 (fun (k22 n23 : Nat) (w21 : hw_H) => hw_o w21 a0 "ProofCourt" ∧ hw_cv l g R k22 n23 ym_Co_take (mw_Co_take) 2 [.ref a0, .ref q19] w21 (fun (k25 n26 : Nat) (w24 : hw_H) => PR k25 n26 w24))))))))))))
set_option maxHeartbeats 4000000 in
set_option maxRecDepth 100000 in
theorem sg_Co_init_0 (X : hw_X p m c cb_Co_init 1 s args (mw_Co_init) "ProofCourt" g A) (hin : meth.name = "<init>") (hRm : 1 ≤ R.frames ∧ 20 ≤ R.locals) {K : Nat → Nat → Nat → List (Option Value) → List Value → hw_H → Prop} {PR : Nat → Nat → hw_H → Prop} (hK : ∀ (k n pc : Nat) (lv : List (Option Value)) (st : List Value) (w : hw_H), K k n pc lv st w → hw_J p l e R s m args below meth c Q 1 g A k n pc lv st w) (rt : ∀ {k n pc : Nat} {lv : List (Option Value)} {w : hw_H}, decode cb_Co_init pc = .ok (.return_, 1) → PR k n w → hw_J p l e R s m args below meth c Q 1 g A k n pc lv [] w) {a0 : Nat} (vc : vc_Co_init_0 l g R K PR k n a0 w) : hw_J p l e R s m args below meth c Q 1 g A k n 0 [some (.ref a0)] [] w := by
  unfold vc_Co_init_0 at vc
  refine hw_aload_n X (Or.inr ⟨_, rfl⟩) dd_Co_init_0 rfl ?_
  refine hw_objInit X (oi_Co_3 X) (oj_Co X) (ok_Co X) (hw_oi1 hRm) (hw_oi2 hRm) (by decide) dd_Co_init_1 ?_
  refine hw_aload_n X (Or.inr ⟨_, rfl⟩) dd_Co_init_4 rfl ?_
  refine hw_new X (ne_Co_9 X) vc.1.1 vc.1.2 dd_Co_init_5 (fun q1 hq => ?_)
  have vc := vc.2 q1 _ hq rfl
  refine hw_dup X rfl dd_Co_init_8 ?_
  obtain ⟨rm9, po9, hM9, hf9, hc9, vc⟩ := vc
  refine hw_callIv X (As := []) (ye_Co_11 X) hM9 rfl hf9 hc9 (Nat.le_of_ble_eq_true rfl) rfl dd_Co_init_9 (fun w3 hp => ?_)
  have vc := vc w3 hp
  obtain ⟨w6, h9, vc⟩ := vc
  refine hw_putF X (ff_Co_12 X) hin rfl rfl h9 dd_Co_init_12 ?_
  refine hw_aload_n X (Or.inr ⟨_, rfl⟩) dd_Co_init_15 rfl ?_
  refine hw_new X (ne_Co_16 X) vc.1.1 vc.1.2 dd_Co_init_16 (fun q7 hq => ?_)
  have vc := vc.2 q7 _ hq rfl
  refine hw_dup X rfl dd_Co_init_19 ?_
  obtain ⟨rm9, po9, hM9, hf9, hc9, vc⟩ := vc
  refine hw_callIv X (As := []) (ye_Co_18 X) hM9 rfl hf9 hc9 (Nat.le_of_ble_eq_true rfl) rfl dd_Co_init_20 (fun w9 hp => ?_)
  have vc := vc w9 hp
  obtain ⟨w12, h9, vc⟩ := vc
  refine hw_putF X (ff_Co_19 X) hin rfl rfl h9 dd_Co_init_23 ?_
  refine hw_aload_n X (Or.inr ⟨_, rfl⟩) dd_Co_init_26 rfl ?_
  refine hw_new X (ne_Co_23 X) vc.1.1 vc.1.2 dd_Co_init_27 (fun q13 hq => ?_)
  have vc := vc.2 q13 _ hq rfl
  refine hw_dup X rfl dd_Co_init_30 ?_
  obtain ⟨rm9, po9, hM9, hf9, hc9, vc⟩ := vc
  refine hw_callIv X (As := []) (ye_Co_25 X) hM9 rfl hf9 hc9 (Nat.le_of_ble_eq_true rfl) rfl dd_Co_init_31 (fun w15 hp => ?_)
  have vc := vc w15 hp
  obtain ⟨w18, h9, vc⟩ := vc
  refine hw_putF X (ff_Co_26 X) hin rfl rfl h9 dd_Co_init_34 ?_
  refine hw_aload_n X (Or.inr ⟨_, rfl⟩) dd_Co_init_37 rfl ?_
  refine hw_new X (ne_Co_30 X) vc.1.1 vc.1.2 dd_Co_init_38 (fun q19 hq => ?_)
  have vc := vc.2 q19 _ hq rfl
  refine hw_dup X rfl dd_Co_init_41 ?_
  refine hw_iconst X (v := 0) dd_Co_init_42 (by decide) ?_
  obtain ⟨rm9, po9, hM9, hf9, hc9, vc⟩ := vc
  refine hw_callIv X (As := [.int (0 : Int32)]) (ye_Co_32 X) hM9 rfl hf9 hc9 (Nat.le_of_ble_eq_true rfl) rfl dd_Co_init_43 (fun w21 hp => ?_)
  have vc := vc w21 hp
  obtain ⟨hob, rm9, po9, hM9, hf9, hc9, vc⟩ := vc
  refine hw_callVv X (As := [.ref q19]) (ye_Co_35 X) hM9 rfl hf9 hc9 hob (Nat.le_of_ble_eq_true rfl) rfl dd_Co_init_46 (fun w24 hp => ?_)
  have vc := vc w24 hp
  exact rt dd_Co_init_49 vc
end
section
variable {p : Program} {l : Launch} {e : Env} {R : Room} {s : State} {m : MethodId} {args : Array Value} {below : List Frame} {meth : Method} {c : Code} {Q : State → Prop} {g : hw_G} {A : Nat → Prop} {k n : Nat} {w : hw_H}
def vc_Co_type_0 (l : Launch) (g : hw_G) (R : Room) (K : Nat → Nat → Nat → List (Option Value) → List Value → hw_H → Prop) (PR : Nat → Nat → Int32 → hw_H → Prop) (k n : Nat) (a0 : Nat) (x1 : Int32) (x2 : Int32) (w : hw_H) : Prop := ∃ b_1 : Nat, hw_g w a0 4 0 (.ref b_1) ∧ (hw_o w b_1 "ProofCourt$Text" ∧ hw_ci l g R k n ym_Te_append (mw_Te_append) 4 [.ref b_1, .int x1, .int x2] w (fun (k3 n4 : Nat) (x_5 : Int32) (w2 : hw_H) => PR k3 n4 x_5 w2))
set_option maxHeartbeats 4000000 in
set_option maxRecDepth 100000 in
theorem sg_Co_type_0 (X : hw_X p m c cb_Co_type 3 s args (mw_Co_type) "ProofCourt" g A) {K : Nat → Nat → Nat → List (Option Value) → List Value → hw_H → Prop} {PR : Nat → Nat → Int32 → hw_H → Prop} (hK : ∀ (k n pc : Nat) (lv : List (Option Value)) (st : List Value) (w : hw_H), K k n pc lv st w → hw_J p l e R s m args below meth c Q 3 g A k n pc lv st w) (rt : ∀ {k n pc : Nat} {lv : List (Option Value)} {x : Int32} {w : hw_H}, decode cb_Co_type pc = .ok (.ireturn, 1) → PR k n x w → hw_J p l e R s m args below meth c Q 3 g A k n pc lv [.int x] w) {a0 : Nat} {x1 : Int32} {x2 : Int32} (vc : vc_Co_type_0 l g R K PR k n a0 x1 x2 w) : hw_J p l e R s m args below meth c Q 3 g A k n 0 [some (.ref a0), some (.int x1), some (.int x2)] [] w := by
  unfold vc_Co_type_0 at vc
  refine hw_aload_n X (Or.inr ⟨_, rfl⟩) dd_Co_type_0 rfl ?_
  obtain ⟨b_1, h9, vc⟩ := vc
  refine hw_get X (fe_Co_12 X) h9 dd_Co_type_1 ?_
  refine hw_iload_n X dd_Co_type_4 rfl ?_
  refine hw_iload_n X dd_Co_type_5 rfl ?_
  obtain ⟨hob, rm9, po9, hM9, hf9, hc9, vc⟩ := vc
  refine hw_callVi X (As := [.int x1, .int x2]) (ye_Co_39 X) hM9 rfl hf9 hc9 hob (Nat.le_of_ble_eq_true rfl) rfl dd_Co_type_6 (fun x_5 w2 hp => ?_)
  have vc := vc x_5 w2 hp
  exact rt dd_Co_type_9 vc
end
