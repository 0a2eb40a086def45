section
variable {p : Program} {l : Launch} {e : Env} {R : Room} {s : State} {m : MethodId} {args : Array Value} {below : List Frame} {meth : Method} {c : Code} {cc : ByteArray} {nL : Nat} {Ts : List Cond} {own : String} {g : hw_G} {A : Nat → Prop}
theorem hw_rtn (X : hw_X p m c cc nL s args Ts own g A) {ty : FieldType} (hr : meth.sig.returnType = some ty) (hlk : meth.locks = false) {mc ms : Nat} {post : Int32 → hw_H → Prop} : ∀ {k n pc : Nat} {lv : List (Option Value)} {x : Int32} {w : hw_H}, decode cc pc = .ok (.ireturn, 1) → ((k ≤ mc ∧ n ≤ ms) ∧ narrow ty (.int x) = .int x ∧ post x w) → hw_J p l e R s m args below meth c (MQ below (va_Qi post (hw_B g A) A) args s mc ms A) nL g A k n pc lv [.int x] w := fun d h => hw_retz X hr h.2.1 hlk h.1 h.2.2 d
end
set_option maxHeartbeats 4000000 in
set_option maxRecDepth 100000 in
theorem ct_St_coder (l : Launch) (g : hw_G) (w : hw_H) {i : Nat} (hi : i < hw_sN) : hw_Mi l g ym_St_coder mw_St_coder (hw_R 1 0 0) [.ref (g.2.2.1 i)] w (fun r w' => r = 0 ∧ w' = w) := by
  refine hw_enteri (r := 0) rfl rfl (by simp [Value.category]) (Nat.le_of_ble_eq_true rfl) ?_
  intro p e s m args below meth c A X hr hlk hnm
  refine sg_St_coder_0 X (fun _ _ _ _ _ _ h => h) (hw_rtn X hr hlk) ?_
  unfold vc_St_coder_0
  exact ⟨hi, hw_00, rfl, rfl, rfl⟩
set_option maxHeartbeats 4000000 in
set_option maxRecDepth 100000 in
theorem ct_St_length (l : Launch) (g : hw_G) (w : hw_H) {i : Nat} (hi : i < hw_sN) : hw_Mi l g ym_St_length mw_St_length (hw_R 2 0 0) [.ref (g.2.2.1 i)] w (fun r w' => r = nI (hw_sLen.getD i 0) ∧ w' = w) := by
  refine hw_enteri (r := 0) rfl rfl (by simp [Value.category]) (Nat.le_of_ble_eq_true rfl) ?_
  intro p e s m args below meth c A X hr hlk hnm
  refine sg_St_length_0 X (fun _ _ _ _ _ _ h => h) (hw_rti X hr hlk) ?_
  unfold vc_St_length_0
  refine ⟨hi, hi, hi, hw_ci_0 (by decide) (by decide) (ct_St_coder l g w hi) (Nat.zero_le _) (Nat.zero_le _) ?_⟩
  rintro x w' ⟨rfl, rfl⟩
  exact ⟨hw_00, sb_shr0 _, rfl⟩
set_option maxHeartbeats 4000000 in
set_option maxRecDepth 100000 in
theorem ct_Te_standBehind0 (l : Launch) (g : hw_G) (w : hw_H) {T TC : Nat} {sk st en nu : Int32} (hT : w T = some (tx_o TC 0 sk st en nu)) : hw_Mv l g ym_Te_standBehind mw_Te_standBehind (hw_R 2 0 0) [.ref T, .int 0] w (fun w' => w' = va_up w T (some (tx_o TC 0 sk 0 0 nu))) := by
  refine hw_enterv (r := 0) rfl rfl (by simp [Value.category]) (Nat.le_of_ble_eq_true rfl) ?_
  intro p e s m args below meth c A X hr hlk hnm
  refine sg_Te_standBehind_0 X (fun _ _ _ _ _ _ h => h) (hw_rtv X hr hlk) ?_
  unfold vc_Te_standBehind_0
  refine ⟨_, ⟨_, hT, Nat.le_of_ble_eq_true rfl, rfl⟩, ?_⟩
  refine sg_Te_standBehind_5 X (fun _ _ _ _ _ _ h => h) (hw_rtv X hr hlk) ?_
  unfold vc_Te_standBehind_5
  refine ⟨_, ⟨_, (va_up_self _ _ _), rfl⟩, _, ⟨_, (va_up_self _ _ _), rfl⟩, fun _ => ?_, (fun h => absurd (by decide) h)⟩
  refine ⟨_, ⟨_, (va_up_self _ _ _), rfl⟩, _, ⟨_, (va_up_self _ _ _), Nat.le_of_ble_eq_true rfl, rfl⟩, ?_⟩
  refine sg_Te_standBehind_52 X (fun _ _ _ _ _ _ h => h) (hw_rtv X hr hlk) ?_
  unfold vc_Te_standBehind_52
  refine ⟨_, ⟨_, (va_up_self _ _ _), rfl⟩, _, ⟨_, (va_up_self _ _ _), rfl⟩, fun _ => ⟨hw_00, ?_⟩, (fun h => absurd (by decide) h)⟩
  exact bx_uu _ _ _ _
set_option maxHeartbeats 4000000 in
set_option maxRecDepth 100000 in
theorem ct_Te_advance0 (l : Launch) (g : hw_G) (w : hw_H) {T TC : Nat} {sk st nu : Int32} (hT : w T = some (tx_o TC 0 sk st 0 nu)) : hw_Mv l g ym_Te_advance mw_Te_advance (hw_R 3 0 0) [.ref T] w (fun w' => w' = va_up w T (some (tx_o TC 0 sk 0 0 nu))) := by
  refine hw_enterv (r := 1) rfl rfl (by simp [Value.category]) (Nat.le_of_ble_eq_true rfl) ?_
  intro p e s m args below meth c A X hr hlk hnm
  refine sg_Te_advance_0 X (fun _ _ _ _ _ _ h => h) (hw_rtv X hr hlk) ?_
  unfold vc_Te_advance_0
  refine ⟨_, ⟨_, hT, rfl⟩, hw_o_of hT rfl rfl, hw_cv_0 (by decide) (by decide) (ct_Te_standBehind0 l g w hT) (Nat.zero_le _) (Nat.zero_le _) ?_⟩
  rintro w' rfl
  refine sg_Te_advance_10 X (fun _ _ _ _ _ _ h => h) (hw_rtv X hr hlk) ?_
  unfold vc_Te_advance_10
  exact ⟨_, ⟨_, (va_up_self _ _ _), rfl⟩, fun _ => ⟨hw_00, rfl⟩, (fun h => absurd (by decide) h)⟩
set_option maxHeartbeats 4000000 in
set_option maxRecDepth 100000 in
theorem ct_Te_rewind0 (l : Launch) (g : hw_G) (w : hw_H) {T TC : Nat} {sk st en nu : Int32} {x : Int32} (hT : w T = some (tx_o TC 0 sk st en nu)) (hx : hw_b x) : hw_Mv l g ym_Te_rewind mw_Te_rewind (hw_R 4 0 0) [.ref T, .int x] w (fun w' => w' = va_up w T (some (tx_o TC 0 x 0 0 nu))) := by
  refine hw_enterv (r := 0) rfl rfl (by simp [Value.category]) (Nat.le_of_ble_eq_true rfl) ?_
  intro p e s m args below meth c A X hr hlk hnm
  refine sg_Te_rewind_0 X (fun _ _ _ _ _ _ h => h) (hw_rtv X hr hlk) ?_
  unfold vc_Te_rewind_0
  refine ⟨_, ⟨_, hT, Nat.le_of_ble_eq_true rfl, rfl⟩, hx, _, ⟨_, (va_up_self _ _ _), Nat.le_of_ble_eq_true rfl, rfl⟩, hw_o_of (va_up_self _ _ _) rfl rfl, hw_cv_0 (by decide) (by decide) (ct_Te_advance0 (TC := TC) (sk := x) (st := st) (nu := nu) l g _ (va_up_self _ _ _)) (Nat.zero_le _) (Nat.zero_le _) ?_⟩
  rintro w' rfl
  exact ⟨hw_00, by rw [bx_uu, bx_uu]⟩
theorem sl_pos : ∀ i, i < hw_sN → ¬ ((0 : Int32) - 0 = nI (hw_sLen.getD i 0)) := by decide
set_option maxHeartbeats 4000000 in
set_option maxRecDepth 100000 in
theorem ct_Te_isWord0 (l : Launch) (g : hw_G) (w : hw_H) {T TC : Nat} {len sk nu : Int32} {i : Nat} (hT : w T = some (tx_o TC len sk 0 0 nu)) (hi : i < hw_sN) : hw_Mi l g ym_Te_isWord mw_Te_isWord (hw_R 3 0 0) [.ref T, .ref (g.2.2.1 i)] w (fun r w' => r = 0 ∧ w' = w) := by
  refine hw_enteri (r := 1) rfl rfl (by simp [Value.category]) (Nat.le_of_ble_eq_true rfl) ?_
  intro p e s m args below meth c A X hr hlk hnm
  refine sg_Te_isWord_0 X (fun _ _ _ _ _ _ h => h) (hw_rtz X hr hlk) ?_
  unfold vc_Te_isWord_0
  refine ⟨_, ⟨_, hT, rfl⟩, _, ⟨_, hT, rfl⟩, hi, hw_ci_0 (by decide) (by decide) (ct_St_length l g w hi) (Nat.zero_le _) (Nat.zero_le _) ?_⟩
  rintro x w' ⟨rfl, rfl⟩
  exact ⟨fun h => absurd h (sl_pos i hi), fun _ => ⟨hw_00, Or.inl rfl, rfl, rfl⟩⟩
set_option maxHeartbeats 4000000 in
set_option maxRecDepth 100000 in
theorem ct_Te_passesWord0 (l : Launch) (g : hw_G) (w : hw_H) {T TC : Nat} {len sk nu : Int32} {i : Nat} (hT : w T = some (tx_o TC len sk 0 0 nu)) (hi : i < hw_sN) : hw_Mi l g ym_Te_passesWord mw_Te_passesWord (hw_R 4 0 0) [.ref T, .ref (g.2.2.1 i)] w (fun r w' => r = 0 ∧ w' = w) := by
  refine hw_enteri (r := 0) rfl rfl (by simp [Value.category]) (Nat.le_of_ble_eq_true rfl) ?_
  intro p e s m args below meth c A X hr hlk hnm
  refine sg_Te_passesWord_0 X (fun _ _ _ _ _ _ h => h) (hw_rtz X hr hlk) ?_
  unfold vc_Te_passesWord_0
  refine ⟨hw_o_of hT rfl rfl, hw_ci_0 (by decide) (by decide) (ct_Te_isWord0 l g w hT hi) (Nat.zero_le _) (Nat.zero_le _) ?_⟩
  rintro x w' ⟨rfl, rfl⟩
  exact ⟨fun h => absurd rfl h, fun _ => ⟨hw_00, Or.inl rfl, rfl, rfl⟩⟩
set_option maxHeartbeats 4000000 in
set_option maxRecDepth 100000 in
theorem ct_Te_isNumber0 (l : Launch) (g : hw_G) (w : hw_H) {T TC : Nat} {len sk nu : Int32} {lo hi : Int32} (hT : w T = some (tx_o TC len sk 0 0 nu)) : hw_Mi l g ym_Te_isNumber mw_Te_isNumber (hw_R 1 0 0) [.ref T, .int lo, .int hi] w (fun r w' => r = 0 ∧ w' = w) := by
  refine hw_enteri (r := 4) rfl rfl (by simp [Value.category]) (Nat.le_of_ble_eq_true rfl) ?_
  intro p e s m args below meth c A X hr hlk hnm
  refine sg_Te_isNumber_0 X (fun _ _ _ _ _ _ h => h) (hw_rtz X hr hlk) ?_
  unfold vc_Te_isNumber_0
  refine ⟨_, ⟨_, hT, rfl⟩, _, ⟨_, hT, rfl⟩, fun _ => ?_, (fun h => absurd (by decide) h)⟩
  refine sg_Te_isNumber_29 X (fun _ _ _ _ _ _ h => h) (hw_rtz X hr hlk) ?_
  unfold vc_Te_isNumber_29
  exact ⟨_, ⟨_, hT, rfl⟩, _, ⟨_, hT, rfl⟩, fun _ => ⟨hw_00, Or.inl rfl, rfl, rfl⟩, (fun h => absurd (by decide) h)⟩
set_option maxHeartbeats 4000000 in
set_option maxRecDepth 100000 in
theorem ct_Te_passesNumber0 (l : Launch) (g : hw_G) (w : hw_H) {T TC : Nat} {len sk nu : Int32} {lo hi : Int32} (hT : w T = some (tx_o TC len sk 0 0 nu)) : hw_Mi l g ym_Te_passesNumber mw_Te_passesNumber (hw_R 2 0 0) [.ref T, .int lo, .int hi] w (fun r w' => r = 0 ∧ w' = w) := by
  refine hw_enteri (r := 0) rfl rfl (by simp [Value.category]) (Nat.le_of_ble_eq_true rfl) ?_
  intro p e s m args below meth c A X hr hlk hnm
  refine sg_Te_passesNumber_0 X (fun _ _ _ _ _ _ h => h) (hw_rtz X hr hlk) ?_
  unfold vc_Te_passesNumber_0
  refine ⟨hw_o_of hT rfl rfl, hw_ci_0 (by decide) (by decide) (ct_Te_isNumber0 l g w hT) (Nat.zero_le _) (Nat.zero_le _) ?_⟩
  rintro x w' ⟨rfl, rfl⟩
  exact ⟨fun h => absurd rfl h, fun _ => ⟨hw_00, Or.inl rfl, rfl, rfl⟩⟩
set_option maxHeartbeats 4000000 in
set_option maxRecDepth 100000 in
theorem ct_Fo_formulaIn0 (l : Launch) (g : hw_G) (w : hw_H) {T TC : Nat} {sk st en nu : Int32} (hT : w T = some (tx_o TC 0 sk st en nu)) : hw_Mq l g ym_Fo_formulaIn mw_Fo_formulaIn (hw_R 5 0 0) [.ref T] w (fun o w' => o = none ∧ w' = va_up w T (some (tx_o TC 0 1 0 0 nu))) := by
  refine hw_enterq (r := 1) rfl rfl (by simp [Value.category]) (Nat.le_of_ble_eq_true rfl) ?_
  intro p e s m args below meth c A X hr hlk hnm
  refine sg_Fo_formulaIn_0 X (fun _ _ _ _ _ _ h => h) (hw_rtq X hr hlk) ?_
  unfold vc_Fo_formulaIn_0
  refine ⟨hw_o_of hT rfl rfl, hw_cv_0 (by decide) (by decide) (ct_Te_rewind0 l g w hT (Or.inr rfl)) (Nat.zero_le _) (Nat.zero_le _) ?_⟩
  rintro w' rfl
  refine ⟨hw_o_of (va_up_self _ _ _) rfl rfl, hw_ci_0 (by decide) (by decide) (ct_Te_passesWord0 (TC := TC) (len := 0) (sk := 1) (nu := nu) (i := 1) l g _ (va_up_self _ _ _) (by decide)) (Nat.zero_le _) (Nat.zero_le _) ?_⟩
  rintro x w' ⟨rfl, rfl⟩
  exact ⟨fun _ => ⟨hw_00, rfl, rfl⟩, fun h => absurd rfl h⟩
set_option maxHeartbeats 4000000 in
set_option maxRecDepth 100000 in
theorem ct_Li_lineIn0 (l : Launch) (g : hw_G) (w : hw_H) {T TC : Nat} {sk st en nu : Int32} {v : Int32} (hT : w T = some (tx_o TC 0 sk st en nu)) : hw_Mq l g ym_Li_lineIn mw_Li_lineIn (hw_R 5 0 0) [.ref T, .int v] w (fun o w' => o = none ∧ w' = va_up w T (some (tx_o TC 0 0 0 0 nu))) := by
  refine hw_enterq (r := 2) rfl rfl (by simp [Value.category]) (Nat.le_of_ble_eq_true rfl) ?_
  intro p e s m args below meth c A X hr hlk hnm
  refine sg_Li_lineIn_0 X (fun _ _ _ _ _ _ h => h) (hw_rtq X hr hlk) ?_
  unfold vc_Li_lineIn_0
  refine ⟨hw_o_of hT rfl rfl, hw_cv_0 (by decide) (by decide) (ct_Te_rewind0 l g w hT (Or.inl rfl)) (Nat.zero_le _) (Nat.zero_le _) ?_⟩
  rintro w' rfl
  refine ⟨hw_o_of (va_up_self _ _ _) rfl rfl, hw_ci_0 (by decide) (by decide) (ct_Te_passesNumber0 (TC := TC) (len := 0) (sk := 0) (nu := nu) l g _ (va_up_self _ _ _)) (Nat.zero_le _) (Nat.zero_le _) ?_⟩
  rintro x w' ⟨rfl, rfl⟩
  exact ⟨fun h => absurd rfl h, fun _ => ⟨hw_00, rfl, rfl⟩⟩
set_option maxHeartbeats 4000000 in
set_option maxRecDepth 100000 in
theorem ct_Co_read0 (l : Launch) (g : hw_G) (w : hw_H) {C T TC P S F : Nat} {sk st en nu : Int32} (hC : w C = some (.inr (4, [.ref T, .ref P, .ref S, .ref F]))) (hT : w T = some (tx_o TC 0 sk st en nu)) : hw_Mi l g ym_Co_read mw_Co_read (hw_R 6 0 0) [.ref C] w (fun r w' => r = -1 ∧ w' = va_up w T (some (tx_o TC 0 1 0 0 nu))) := by
  refine hw_enteri (r := 2) rfl rfl (by simp [Value.category]) (Nat.le_of_ble_eq_true rfl) ?_
  intro p e s m args below meth c A X hr hlk hnm
  refine sg_Co_read_0 X (fun _ _ _ _ _ _ h => h) (hw_rti X hr hlk) ?_
  unfold vc_Co_read_0
  have hne : C ≠ T := by rintro rfl; rw [hC] at hT; cases hT
  refine ⟨_, ⟨_, hC, rfl⟩, hw_cq_0 (by decide) (by decide) (ct_Fo_formulaIn0 l g w hT) (Nat.zero_le _) (Nat.zero_le _) ?_⟩
  rintro o w' ⟨rfl, rfl⟩
  have hC1 : ∀ e, (va_up w T e) C = some (.inr (4, [.ref T, .ref P, .ref S, .ref F])) := fun e => by rw [va_up_ne _ _ hne]; exact hC
  refine ⟨_, ⟨_, hC1 _, rfl⟩, _, ⟨_, (va_up_self _ _ _), rfl⟩, _, ⟨_, hC1 _, rfl⟩, hw_o_of (va_up_self _ _ _) rfl rfl, hw_cv_0 (by decide) (by decide) (ct_Te_clear l g _ (va_up_self _ _ _)) (Nat.zero_le _) (Nat.zero_le _) ?_⟩
  rintro w' rfl
  exact ⟨fun _ => ⟨hw_00, by decide, by rw [bx_uu]⟩, fun q h => by cases h⟩
set_option maxHeartbeats 4000000 in
set_option maxRecDepth 100000 in
theorem ct_Co_line0 (l : Launch) (g : hw_G) (w : hw_H) {C T TC P S F : Nat} {sk st en nu : Int32} {FA : Nat} {fc : Int32} (hC : w C = some (.inr (4, [.ref T, .ref P, .ref S, .ref F]))) (hT : w T = some (tx_o TC 0 sk st en nu)) (hF : w F = some (.inr (3, [.int 0, .ref FA, .int 0, .int fc]))) : hw_Mi l g ym_Co_line mw_Co_line (hw_R 6 0 0) [.ref C] w (fun r w' => r = -1 ∧ w' = va_up w T (some (tx_o TC 0 0 0 0 nu))) := by
  refine hw_enteri (r := 2) rfl rfl (by simp [Value.category]) (Nat.le_of_ble_eq_true rfl) ?_
  intro p e s m args below meth c A X hr hlk hnm
  refine sg_Co_line_0 X (fun _ _ _ _ _ _ h => h) (hw_rti X hr hlk) ?_
  unfold vc_Co_line_0
  have hne : C ≠ T := by rintro rfl; rw [hC] at hT; cases hT
  refine ⟨_, ⟨_, hC, rfl⟩, _, ⟨_, hC, rfl⟩, _, ⟨_, hF, rfl⟩, hw_cq_0 (by decide) (by decide) (ct_Li_lineIn0 l g w hT) (Nat.zero_le _) (Nat.zero_le _) ?_⟩
  rintro o w' ⟨rfl, rfl⟩
  have hC1 : ∀ e, (va_up w T e) C = some (.inr (4, [.ref T, .ref P, .ref S, .ref F])) := fun e => by rw [va_up_ne _ _ hne]; exact hC
  refine ⟨_, ⟨_, hC1 _, rfl⟩, _, ⟨_, (va_up_self _ _ _), rfl⟩, _, ⟨_, hC1 _, rfl⟩, hw_o_of (va_up_self _ _ _) rfl rfl, hw_cv_0 (by decide) (by decide) (ct_Te_clear l g _ (va_up_self _ _ _)) (Nat.zero_le _) (Nat.zero_le _) ?_⟩
  rintro w' rfl
  exact ⟨fun _ => ⟨hw_00, by decide, by rw [bx_uu]⟩, fun q h => by cases h⟩
set_option maxHeartbeats 4000000 in
set_option maxRecDepth 100000 in
theorem ct_Co_variables (l : Launch) (g : hw_G) (w : hw_H) {C T P S F : Nat} {v a fs fc : Int32} {FA : Nat} (hC : w C = some (.inr (4, [.ref T, .ref P, .ref S, .ref F]))) (hF : w F = some (.inr (3, [.int v, .ref FA, .int fs, .int fc]))) : hw_Mi l g ym_Co_variables mw_Co_variables (hw_R 1 0 0) [.ref C] w (fun r w' => r = v ∧ w' = w) := by
  refine hw_enteri (r := 0) rfl rfl (by simp [Value.category]) (Nat.le_of_ble_eq_true rfl) ?_
  intro p e s m args below meth c A X hr hlk hnm
  refine sg_Co_variables_0 X (fun _ _ _ _ _ _ h => h) (hw_rti X hr hlk) ?_
  unfold vc_Co_variables_0
  exact ⟨_, ⟨_, hC, rfl⟩, _, ⟨_, hF, rfl⟩, hw_00, rfl, rfl⟩
set_option maxHeartbeats 4000000 in
set_option maxRecDepth 100000 in
theorem ct_Co_live (l : Launch) (g : hw_G) (w : hw_H) {C T P S F : Nat} {PA : Nat} {ps ph pe : Int32} (hC : w C = some (.inr (4, [.ref T, .ref P, .ref S, .ref F]))) (hP : w P = some (.inr (1, [.ref PA, .int ps, .int ph, .int pe]))) : hw_Mi l g ym_Co_live mw_Co_live (hw_R 1 0 0) [.ref C] w (fun r w' => r = ps ∧ w' = w) := by
  refine hw_enteri (r := 0) rfl rfl (by simp [Value.category]) (Nat.le_of_ble_eq_true rfl) ?_
  intro p e s m args below meth c A X hr hlk hnm
  refine sg_Co_live_0 X (fun _ _ _ _ _ _ h => h) (hw_rti X hr hlk) ?_
  unfold vc_Co_live_0
  exact ⟨_, ⟨_, hC, rfl⟩, _, ⟨_, hP, rfl⟩, hw_00, rfl, rfl⟩
set_option maxHeartbeats 4000000 in
set_option maxRecDepth 100000 in
theorem ct_Co_refuted (l : Launch) (g : hw_G) (w : hw_H) {C T P S F : Nat} {PA : Nat} {ps ph pe : Int32} (hC : w C = some (.inr (4, [.ref T, .ref P, .ref S, .ref F]))) (hP : w P = some (.inr (1, [.ref PA, .int ps, .int ph, .int pe]))) (hb : hw_b pe) : hw_Mi l g ym_Co_refuted mw_Co_refuted (hw_R 1 0 0) [.ref C] w (fun r w' => r = pe ∧ w' = w) := by
  refine hw_enteri (r := 0) rfl rfl (by simp [Value.category]) (Nat.le_of_ble_eq_true rfl) ?_
  intro p e s m args below meth c A X hr hlk hnm
  refine sg_Co_refuted_0 X (fun _ _ _ _ _ _ h => h) (hw_rtz X hr hlk) ?_
  unfold vc_Co_refuted_0
  exact ⟨_, ⟨_, hC, rfl⟩, _, ⟨_, hP, rfl⟩, hw_00, hb, rfl, rfl⟩
set_option maxHeartbeats 4000000 in
set_option maxRecDepth 100000 in
theorem ct_Pr_find0 (l : Launch) (g : hw_G) (w : hw_H) {P PA : Nat} {ph pe x : Int32} (hP : w P = some (.inr (1, [.ref PA, .int 0, .int ph, .int pe]))) : hw_Mq l g ym_Pr_find mw_Pr_find (hw_R 1 0 0) [.ref P, .int x] w (fun o w' => o = none ∧ w' = w) := by
  refine hw_enterq (r := 1) rfl rfl (by simp [Value.category]) (Nat.le_of_ble_eq_true rfl) ?_
  intro p e s m args below meth c A X hr hlk hnm
  refine sg_Pr_find_0 X (fun _ _ _ _ _ _ h => h) (hw_rtq X hr hlk) ?_
  unfold vc_Pr_find_0
  refine sg_Pr_find_2 X (fun _ _ _ _ _ _ h => h) (hw_rtq X hr hlk) ?_
  unfold vc_Pr_find_2
  exact ⟨_, ⟨_, hP, rfl⟩, fun _ => ⟨hw_00, rfl, rfl⟩, (fun h => absurd (by decide) h)⟩
set_option maxHeartbeats 4000000 in
set_option maxRecDepth 100000 in
theorem ct_Co_literal0 (l : Launch) (g : hw_G) (w : hw_H) {C T P S F : Nat} {PA : Nat} {ph pe x y : Int32} (hC : w C = some (.inr (4, [.ref T, .ref P, .ref S, .ref F]))) (hP : w P = some (.inr (1, [.ref PA, .int 0, .int ph, .int pe]))) : hw_Mi l g ym_Co_literal mw_Co_literal (hw_R 2 0 0) [.ref C, .int x, .int y] w (fun r w' => r = 0 ∧ w' = w) := by
  refine hw_enteri (r := 1) rfl rfl (by simp [Value.category]) (Nat.le_of_ble_eq_true rfl) ?_
  intro p e s m args below meth c A X hr hlk hnm
  refine sg_Co_literal_0 X (fun _ _ _ _ _ _ h => h) (hw_rti X hr hlk) ?_
  unfold vc_Co_literal_0
  refine ⟨_, ⟨_, hC, rfl⟩, hw_o_of hP rfl rfl, hw_cq_0 (by decide) (by decide) (ct_Pr_find0 l g w hP) (Nat.zero_le _) (Nat.zero_le _) ?_⟩
  rintro o w' ⟨rfl, rfl⟩
  exact ⟨fun _ => ⟨hw_00, rfl, rfl⟩, fun q h => by cases h⟩
abbrev se_o (SC ST SR SK SH : Nat) (fi sa re sh : Int32) : va_E := .inr (2, [.ref SC, .int 0, .int 0, .int fi, .int sa, .int re, .int sh, .int 0, .ref ST, .ref SR, .int 0, .ref SK, .int 0, .ref SH, .int 0])
set_option maxHeartbeats 4000000 in
set_option maxRecDepth 100000 in
theorem ct_Se_propagate0 (l : Launch) (g : hw_G) (w : hw_H) {S SC ST SR SK SH : Nat} {re sh : Int32} {fi sa : Int32} (hS : w S = some (se_o SC ST SR SK SH fi sa re sh)) : hw_Mi l g ym_Se_propagate mw_Se_propagate (hw_R 1 0 0) [.ref S] w (fun r w' => r = -1 ∧ w' = w) := by
  refine hw_enteri (r := 4) rfl rfl (by simp [Value.category]) (Nat.le_of_ble_eq_true rfl) ?_
  intro p e s m args below meth c A X hr hlk hnm
  refine sg_Se_propagate_0 X (fun _ _ _ _ _ _ h => h) (hw_rti X hr hlk) ?_
  unfold vc_Se_propagate_0
  refine sg_Se_propagate_2 X (fun _ _ _ _ _ _ h => h) (hw_rti X hr hlk) ?_
  unfold vc_Se_propagate_2
  refine ⟨_, ⟨_, hS, rfl⟩, fun h => absurd h (by decide), fun _ => ⟨_, ⟨_, hS, rfl⟩, ?_⟩⟩
  refine sg_Se_propagate_17 X (fun _ _ _ _ _ _ h => h) (hw_rti X hr hlk) ?_
  unfold vc_Se_propagate_17
  exact ⟨_, ⟨_, hS, rfl⟩, fun _ => ⟨_, ⟨_, hS, rfl⟩, fun h => absurd rfl h, fun _ => ⟨hw_00, rfl, rfl⟩⟩, (fun h => absurd (by decide) h)⟩
set_option maxHeartbeats 4000000 in
set_option maxRecDepth 100000 in
theorem ct_Se_finds0 (l : Launch) (g : hw_G) (w : hw_H) {S SC ST SR SK SH : Nat} {re sh : Int32} (hS : w S = some (se_o SC ST SR SK SH 0 0 re sh)) : hw_Mi l g ym_Se_finds mw_Se_finds (hw_R 2 0 0) [.ref S] w (fun r w' => r = 1 ∧ w' = va_up w S (some (se_o SC ST SR SK SH 1 1 re sh))) := by
  refine hw_enteri (r := 2) rfl rfl (by simp [Value.category]) (Nat.le_of_ble_eq_true rfl) ?_
  intro p e s m args below meth c A X hr hlk hnm
  refine sg_Se_finds_0 X (fun _ _ _ _ _ _ h => h) (hw_rtz X hr hlk) ?_
  unfold vc_Se_finds_0
  refine sg_Se_finds_2 X (fun _ _ _ _ _ _ h => h) (hw_rtz X hr hlk) ?_
  unfold vc_Se_finds_2
  refine ⟨fun h => absurd h (by decide), fun _ => ⟨_, ⟨_, hS, rfl⟩, fun h => absurd rfl h, fun _ => ⟨hw_o_of hS rfl rfl, hw_ci_0 (by decide) (by decide) (ct_Se_propagate0 l g w hS) (Nat.zero_le _) (Nat.zero_le _) ?_⟩⟩⟩
  rintro x w' ⟨rfl, rfl⟩
  refine ⟨fun _ => ⟨_, ⟨_, hS, rfl⟩, _, ⟨_, hS, rfl⟩, fun _ => ⟨_, ⟨_, hS, Nat.le_of_ble_eq_true rfl, rfl⟩, Or.inr rfl, _, ⟨_, (va_up_self _ _ _), Nat.le_of_ble_eq_true rfl, rfl⟩, Or.inr rfl, ?_⟩, (fun h => absurd (by decide) h)⟩, fun h => absurd rfl h⟩
  refine sg_Se_finds_2 X (fun _ _ _ _ _ _ h => h) (hw_rtz X hr hlk) ?_
  unfold vc_Se_finds_2
  exact ⟨fun h => absurd h (by decide), fun _ => ⟨_, ⟨_, (va_up_self _ _ _), rfl⟩, fun _ => ⟨_, ⟨_, (va_up_self _ _ _), rfl⟩, hw_00, Or.inr rfl, rfl, bx_uu _ _ _ _⟩, fun h => absurd h (by decide)⟩⟩
set_option maxHeartbeats 4000000 in
set_option maxRecDepth 100000 in
theorem ct_Co_solve0 (l : Launch) (g : hw_G) (w : hw_H) {C T P S F SC ST SR SK SH : Nat} {re sh : Int32} (hC : w C = some (.inr (4, [.ref T, .ref P, .ref S, .ref F]))) (hS : w S = some (se_o SC ST SR SK SH 0 0 re sh)) : hw_Mi l g ym_Co_solve mw_Co_solve (hw_R 3 0 0) [.ref C] w (fun r w' => r = 1 ∧ w' = va_up w S (some (se_o SC ST SR SK SH 1 1 re sh))) := by
  refine hw_enteri (r := 0) rfl rfl (by simp [Value.category]) (Nat.le_of_ble_eq_true rfl) ?_
  intro p e s m args below meth c A X hr hlk hnm
  refine sg_Co_solve_0 X (fun _ _ _ _ _ _ h => h) (hw_rti X hr hlk) ?_
  unfold vc_Co_solve_0
  refine ⟨_, ⟨_, hC, rfl⟩, hw_o_of hS rfl rfl, hw_ci_0 (by decide) (by decide) (ct_Se_finds0 l g w hS) (Nat.zero_le _) (Nat.zero_le _) ?_⟩
  rintro x w' ⟨rfl, rfl⟩
  exact ⟨fun h => absurd h (by decide), fun _ => ⟨hw_00, rfl, rfl⟩⟩
set_option maxHeartbeats 4000000 in
set_option maxRecDepth 100000 in
theorem ct_Co_proves0 (l : Launch) (g : hw_G) (w : hw_H) {C T P S F SC ST SR SK SH : Nat} {re sh : Int32} (hC : w C = some (.inr (4, [.ref T, .ref P, .ref S, .ref F]))) (hS : w S = some (se_o SC ST SR SK SH 0 0 re sh)) : hw_Mi l g ym_Co_proves mw_Co_proves (hw_R 3 0 0) [.ref C] w (fun r w' => r = 0 ∧ w' = va_up w S (some (se_o SC ST SR SK SH 1 1 re sh))) := by
  refine hw_enteri (r := 0) rfl rfl (by simp [Value.category]) (Nat.le_of_ble_eq_true rfl) ?_
  intro p e s m args below meth c A X hr hlk hnm
  refine sg_Co_proves_0 X (fun _ _ _ _ _ _ h => h) (hw_rtz X hr hlk) ?_
  unfold vc_Co_proves_0
  refine ⟨_, ⟨_, hC, rfl⟩, hw_o_of hS rfl rfl, hw_ci_0 (by decide) (by decide) (ct_Se_finds0 l g w hS) (Nat.zero_le _) (Nat.zero_le _) ?_⟩
  rintro x w' ⟨rfl, rfl⟩
  exact ⟨fun _ => ⟨hw_00, Or.inl rfl, rfl, rfl⟩, fun h => absurd h (by decide)⟩
theorem i3_none (v : Int32) (h : ¬ v < 1) : (0 : Int32) < v := by
  have h1 : (1 : Int32) ≤ v := Int32.not_lt.mp h
  rw [Int32.le_iff_toInt_le] at h1
  rw [Int32.lt_iff_toInt_lt]
  have e1 : (1 : Int32).toInt = 1 := by decide
  have e0 : (0 : Int32).toInt = 0 := by decide
  omega
set_option maxHeartbeats 4000000 in
set_option maxRecDepth 100000 in
theorem ct_Co_value0 (l : Launch) (g : hw_G) (w : hw_H) {C T P S F : Nat} {fs fc x : Int32} {FA : Nat} (hC : w C = some (.inr (4, [.ref T, .ref P, .ref S, .ref F]))) (hF : w F = some (.inr (3, [.int 0, .ref FA, .int fs, .int fc]))) : hw_Mi l g ym_Co_value mw_Co_value (hw_R 1 0 0) [.ref C, .int x] w (fun r w' => r = -1 ∧ w' = w) := by
  refine hw_enteri (r := 0) rfl rfl (by simp [Value.category]) (Nat.le_of_ble_eq_true rfl) ?_
  intro p e s m args below meth c A X hr hlk hnm
  refine sg_Co_value_0 X (fun _ _ _ _ _ _ h => h) (hw_rti X hr hlk) ?_
  unfold vc_Co_value_0
  exact ⟨fun _ => ⟨hw_00, rfl, rfl⟩, fun h => ⟨_, ⟨_, hC, rfl⟩, _, ⟨_, hF, rfl⟩, fun _ => ⟨hw_00, rfl, rfl⟩, fun h2 => absurd (i3_none x h) h2⟩⟩
abbrev fo_o (FA : Nat) (fc : Int32) : va_E := .inr (3, [.int 0, .ref FA, .int 0, .int fc])
set_option maxHeartbeats 4000000 in
set_option maxRecDepth 100000 in
theorem ct_Fo_isSatisfied0 (l : Launch) (g : hw_G) (w : hw_H) {F FA : Nat} {fc x : Int32} (hF : w F = some (fo_o FA fc)) : hw_Mi l g ym_Fo_isSatisfied mw_Fo_isSatisfied (hw_R 1 0 0) [.ref F, .int x] w (fun r w' => r = 1 ∧ w' = w) := by
  refine hw_enteri (r := 1) rfl rfl (by simp [Value.category]) (Nat.le_of_ble_eq_true rfl) ?_
  intro p e s m args below meth c A X hr hlk hnm
  refine sg_Fo_isSatisfied_0 X (fun _ _ _ _ _ _ h => h) (hw_rtz X hr hlk) ?_
  unfold vc_Fo_isSatisfied_0
  refine sg_Fo_isSatisfied_2 X (fun _ _ _ _ _ _ h => h) (hw_rtz X hr hlk) ?_
  unfold vc_Fo_isSatisfied_2
  exact ⟨_, ⟨_, hF, rfl⟩, fun _ => ⟨hw_00, Or.inr rfl, rfl, rfl⟩, (fun h => absurd (by decide) h)⟩
set_option maxHeartbeats 4000000 in
set_option maxRecDepth 100000 in
theorem ct_Fo_satisfying0 (l : Launch) (g : hw_G) (w : hw_H) {F FA : Nat} (hF : w F = some (fo_o FA (-1))) : hw_Mi l g ym_Fo_satisfying mw_Fo_satisfying (hw_R 2 0 0) [.ref F] w (fun r w' => r = 1 ∧ w' = va_up w F (some (fo_o FA 1))) := by
  refine hw_enteri (r := 2) rfl rfl (by simp [Value.category]) (Nat.le_of_ble_eq_true rfl) ?_
  intro p e s m args below meth c A X hr hlk hnm
  refine sg_Fo_satisfying_0 X (fun _ _ _ _ _ _ h => h) (hw_rti X hr hlk) ?_
  unfold vc_Fo_satisfying_0
  refine ⟨_, ⟨_, hF, rfl⟩, fun h => absurd rfl h, fun _ => ⟨_, ⟨_, hF, Nat.le_of_ble_eq_true rfl, rfl⟩, ?_⟩⟩
  refine sg_Fo_satisfying_15 X (fun _ _ _ _ _ _ h => h) (hw_rti X hr hlk) ?_
  unfold vc_Fo_satisfying_15
  refine ⟨_, ⟨_, (va_up_self _ _ _), rfl⟩, fun h => absurd h (by decide), fun _ => ⟨_, ⟨_, (va_up_self _ _ _), rfl⟩, fun y4 ey => ⟨hw_o_of (va_up_self _ _ _) rfl rfl, hw_ci_0 (by decide) (by decide) (ct_Fo_isSatisfied0 (FA := FA) (fc := 0) l g _ (va_up_self _ _ _)) (Nat.zero_le _) (Nat.zero_le _) ?_⟩⟩⟩
  rintro x w' ⟨rfl, rfl⟩
  refine ⟨fun h => absurd h (by decide), fun _ => ⟨_, ⟨_, (va_up_self _ _ _), rfl⟩, _, ⟨_, (va_up_self _ _ _), Nat.le_of_ble_eq_true rfl, rfl⟩, ?_⟩⟩
  refine sg_Fo_satisfying_15 X (fun _ _ _ _ _ _ h => h) (hw_rti X hr hlk) ?_
  unfold vc_Fo_satisfying_15
  exact ⟨_, ⟨_, (va_up_self _ _ _), rfl⟩, fun _ => ⟨_, ⟨_, (va_up_self _ _ _), rfl⟩, hw_00, by decide, by rw [bx_uu]; rfl⟩, fun h => absurd (by decide) h⟩
set_option maxHeartbeats 4000000 in
set_option maxRecDepth 100000 in
theorem ct_Co_count0 (l : Launch) (g : hw_G) (w : hw_H) {C T P S F FA : Nat} (hC : w C = some (.inr (4, [.ref T, .ref P, .ref S, .ref F]))) (hF : w F = some (fo_o FA (-1))) : hw_Mi l g ym_Co_count mw_Co_count (hw_R 3 0 0) [.ref C] w (fun r w' => r = 1 ∧ w' = va_up w F (some (fo_o FA 1))) := by
  refine hw_enteri (r := 0) rfl rfl (by simp [Value.category]) (Nat.le_of_ble_eq_true rfl) ?_
  intro p e s m args below meth c A X hr hlk hnm
  refine sg_Co_count_0 X (fun _ _ _ _ _ _ h => h) (hw_rti X hr hlk) ?_
  unfold vc_Co_count_0
  refine ⟨_, ⟨_, hC, rfl⟩, hw_o_of hF rfl rfl, hw_ci_0 (by decide) (by decide) (ct_Fo_satisfying0 l g w hF) (Nat.zero_le _) (Nat.zero_le _) ?_⟩
  rintro x w' ⟨rfl, rfl⟩
  exact ⟨hw_00, rfl, rfl⟩
set_option maxHeartbeats 4000000 in
set_option maxRecDepth 100000 in
theorem ct_Co_isLiteralOrNone0 (l : Launch) (g : hw_G) (w : hw_H) {C T P S F FA : Nat} {fc x : Int32} (hC : w C = some (.inr (4, [.ref T, .ref P, .ref S, .ref F]))) (hF : w F = some (fo_o FA fc)) : hw_Mi l g ym_Co_isLiteralOrNone mw_Co_isLiteralOrNone (hw_R 1 0 0) [.ref C, .int x] w (fun r w' => r = (if x = 0 then 1 else 0) ∧ w' = w) := by
  refine hw_enteri (r := 0) rfl rfl (by simp [Value.category]) (Nat.le_of_ble_eq_true rfl) ?_
  intro p e s m args below meth c A X hr hlk hnm
  refine sg_Co_isLiteralOrNone_0 X (fun _ _ _ _ _ _ h => h) (hw_rtz X hr hlk) ?_
  unfold vc_Co_isLiteralOrNone_0
  refine ⟨_, ⟨_, hC, rfl⟩, _, ⟨_, hF, rfl⟩, fun h => ⟨hw_00, Or.inl rfl, ?_, rfl⟩, fun h => ⟨_, ⟨_, hC, rfl⟩, _, ⟨_, hF, rfl⟩, fun h2 => ⟨hw_00, Or.inl rfl, ?_, rfl⟩, fun h2 => ⟨hw_00, Or.inr rfl, ?_, rfl⟩⟩⟩
  · rw [if_neg]; rintro rfl; exact absurd h (by decide)
  · rw [if_neg]; rintro rfl; exact absurd h2 (by decide)
  · rw [if_pos]
    have e : (-(0 : Int32)) = 0 := by decide
    rw [e] at h
    exact Int32.le_antisymm (Int32.not_lt.mp h2) (Int32.not_lt.mp h)
set_option maxHeartbeats 4000000 in
set_option maxRecDepth 100000 in
theorem ct_Co_bit0 (l : Launch) (g : hw_G) (w : hw_H)   : hw_Mi l g ym_Co_bit mw_Co_bit (hw_R 1 0 0) [.int 0] w (fun r w' => r = 0 ∧ w' = w) := by
  refine hw_enteri (r := 0) rfl rfl (by simp [Value.category]) (Nat.le_of_ble_eq_true rfl) ?_
  intro p e s m args below meth c A X hr hlk hnm
  refine sg_Co_bit_0 X (fun _ _ _ _ _ _ h => h) (hw_rti X hr hlk) ?_
  unfold vc_Co_bit_0
  exact ⟨fun h => absurd rfl h, fun _ => ⟨hw_00, rfl, rfl⟩⟩
set_option maxHeartbeats 4000000 in
set_option maxRecDepth 100000 in
theorem ct_In_bitCount0 (l : Launch) (g : hw_G) (w : hw_H)   : hw_Mi l g ym_In_bitCount mw_In_bitCount (hw_R 1 0 0) [.int 0] w (fun r w' => r = 0 ∧ w' = w) := by
  refine hw_enteri (r := 0) rfl rfl (by simp [Value.category]) (Nat.le_of_ble_eq_true rfl) ?_
  intro p e s m args below meth c A X hr hlk hnm
  refine sg_In_bitCount_0 X (fun _ _ _ _ _ _ h => h) (hw_rti X hr hlk) ?_
  unfold vc_In_bitCount_0
  rintro y1 rfl y2 rfl y3 rfl y4 rfl y5 rfl
  exact ⟨hw_00, by decide, rfl⟩
set_option maxHeartbeats 4000000 in
set_option maxRecDepth 100000 in
theorem ct_Fo_forcedBy0 (l : Launch) (g : hw_G) (w : hw_H) {F FA : Nat} {fc : Int32} (hF : w F = some (fo_o FA fc)) : hw_Mi l g ym_Fo_forcedBy mw_Fo_forcedBy (hw_R 1 0 0) [.ref F, .int 0] w (fun r w' => r = 0 ∧ w' = w) := by
  refine hw_enteri (r := 5) rfl rfl (by simp [Value.category]) (Nat.le_of_ble_eq_true rfl) ?_
  intro p e s m args below meth c A X hr hlk hnm
  refine sg_Fo_forcedBy_0 X (fun _ _ _ _ _ _ h => h) (hw_rti X hr hlk) ?_
  unfold vc_Fo_forcedBy_0
  refine sg_Fo_forcedBy_4 X (fun _ _ _ _ _ _ h => h) (hw_rti X hr hlk) ?_
  unfold vc_Fo_forcedBy_4
  refine ⟨_, ⟨_, hF, rfl⟩, fun h => absurd h (by decide), fun _ => ?_⟩
  refine sg_Fo_forcedBy_18 X (fun _ _ _ _ _ _ h => h) (hw_rti X hr hlk) ?_
  unfold vc_Fo_forcedBy_18
  exact ⟨_, ⟨_, hF, rfl⟩, fun _ => ⟨fun h => absurd rfl h, fun _ => ⟨hw_00, rfl, rfl⟩⟩, (fun h => absurd (by decide) h)⟩
set_option maxHeartbeats 4000000 in
set_option maxRecDepth 100000 in
theorem ct_Co_forced0 (l : Launch) (g : hw_G) (w : hw_H) {C T P S F FA : Nat} {fc x y : Int32} (hC : w C = some (.inr (4, [.ref T, .ref P, .ref S, .ref F]))) (hF : w F = some (fo_o FA fc)) : hw_Mi l g ym_Co_forced mw_Co_forced (hw_R 2 0 0) [.ref C, .int x, .int y] w (fun r w' => r = (if x = 0 ∧ y = 0 then 0 else -2) ∧ w' = w) := by
  refine hw_enteri (r := 1) rfl rfl (by simp [Value.category]) (Nat.le_of_ble_eq_true rfl) ?_
  intro p e s m args below meth c A X hr hlk hnm
  refine sg_Co_forced_0 X (fun _ _ _ _ _ _ h => h) (hw_rti X hr hlk) ?_
  unfold vc_Co_forced_0
  refine ⟨hw_o_of hC rfl rfl, hw_ci_0 (by decide) (by decide) (ct_Co_isLiteralOrNone0 (x := x) l g w hC hF) (Nat.zero_le _) (Nat.zero_le _) ?_⟩
  rintro r w' ⟨rfl, rfl⟩
  refine ⟨fun h => ⟨hw_00, ?_, rfl⟩, fun h => ⟨hw_o_of hC rfl rfl, hw_ci_0 (by decide) (by decide) (ct_Co_isLiteralOrNone0 (x := y) l g _ hC hF) (Nat.zero_le _) (Nat.zero_le _) ?_⟩⟩
  · rw [if_neg]; rintro ⟨rfl, -⟩; exact absurd h (by decide)
  rintro r w' ⟨rfl, rfl⟩
  have hx : x = 0 := by
    by_cases z : x = 0
    · exact z
    · rw [if_neg z] at h; exact absurd rfl h
  subst hx
  refine ⟨fun h2 => ⟨hw_00, ?_, rfl⟩, fun h2 => ?_⟩
  · rw [if_neg]; rintro ⟨-, rfl⟩; exact absurd h2 (by decide)
  have hy : y = 0 := by
    by_cases z : y = 0
    · exact z
    · rw [if_neg z] at h2; exact absurd rfl h2
  subst hy
  refine ⟨fun _ => ⟨_, ⟨_, hC, rfl⟩, hw_ci_0 (by decide) (by decide) (ct_Co_bit0 l g _) (Nat.zero_le _) (Nat.zero_le _) ?_⟩, fun h3 => absurd rfl h3⟩
  rintro r w' ⟨rfl, rfl⟩
  refine hw_ci_0 (by decide) (by decide) (ct_Co_bit0 l g _) (Nat.zero_le _) (Nat.zero_le _) ?_
  rintro r w' ⟨rfl, rfl⟩
  refine ⟨hw_o_of hF rfl rfl, hw_ci_0 (by decide) (by decide) (ct_Fo_forcedBy0 l g _ hF) (Nat.zero_le _) (Nat.zero_le _) ?_⟩
  rintro r w' ⟨rfl, rfl⟩
  refine ⟨fun _ => hw_ci_0 (by decide) (by decide) (ct_In_bitCount0 l g _) (Nat.zero_le _) (Nat.zero_le _) ?_, fun h3 => absurd h3 (by decide)⟩
  rintro r w' ⟨rfl, rfl⟩
  exact ⟨hw_00, by decide, rfl⟩
