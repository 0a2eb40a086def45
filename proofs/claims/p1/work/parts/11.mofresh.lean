theorem up_same {w : hw_H} {a : Nat} {e : va_E} (h : w a = some e) : va_up w a (some e) = w := by
  funext b
  by_cases hb : b = a
  · subst hb; rw [va_up_self, h]
  · rw [va_up_ne _ _ hb]
theorem upd_z (k : Nat) : upd (fun _ => 0) k (vp_nar .boolean 0) = fun _ => 0 := by
  funext j
  by_cases h : j = k
  · subst h; rw [pk_us]; rfl
  · rw [pk_un h]
theorem as_z {g : hw_G} {w : hw_H} {a : Nat} {i : Int32} (h : w a = some (ai_0 g 2 21)) (hi : vp_in i 21) : hw_as g 2 w a i (vp_nar .boolean 0) w := ⟨21, fun _ => 0, h, hi, by rw [upd_z, up_same h]⟩
theorem in_z (x : Int32) : (!decide (x < -(0 : Int32)) && !decide ((0 : Int32) < x)) = decide (x = 0) := by
  have e : (-(0 : Int32)) = 0 := by decide
  rw [e]
  by_cases h : x = 0
  · subst h; decide
  · by_cases h1 : x < 0
    · simp [h, h1]
    · by_cases h2 : 0 < x
      · simp [h, h2]
      · exact absurd (Int32.le_antisymm (Int32.not_lt.mp h2) (Int32.not_lt.mp h1)) h
theorem in_1 (x : Int32) : (!decide (x < 1) && !decide ((0 : Int32) < x)) = false := by
  by_cases h : x < 1
  · simp [h]
  · simp [i3_none x h]
set_option maxHeartbeats 4000000 in
set_option maxRecDepth 100000 in
theorem ct_Mo_cut0 (l : Launch) (g : hw_G) (w : hw_H) {M : Nat} {m0 : Nat → Nat} {wo ne si fa hn x : Int32} (hM : w M = some (mo_o m0 0 wo ne si fa hn)) : hw_Mv l g ym_Mo_cut mw_Mo_cut (hw_R 2 0 0) [.ref M, .int x] w (fun w' => w' = va_up w M (some (mo_o m0 0 0 0 0 (-1) hn))) := by
  refine hw_enterv (r := 4) rfl rfl (by simp [Value.category]) (Nat.le_of_ble_eq_true rfl) ?_
  intro p e s m args below meth c A X hr hlk hnm
  refine sg_Mo_cut_0 X (fun _ _ _ _ _ _ h => h) (hw_rtv X hr hlk) ?_
  unfold vc_Mo_cut_0
  refine ⟨_, ⟨_, hM, Nat.le_of_ble_eq_true rfl, rfl⟩, _, ⟨_, (va_up_self _ _ _), Nat.le_of_ble_eq_true rfl, rfl⟩, _, ⟨_, (va_up_self _ _ _), Nat.le_of_ble_eq_true rfl, rfl⟩, _, ⟨_, (va_up_self _ _ _), rfl⟩, _, ⟨_, (va_up_self _ _ _), Nat.le_of_ble_eq_true rfl, rfl⟩, _, ⟨_, (va_up_self _ _ _), Nat.le_of_ble_eq_true rfl, rfl⟩, ?_⟩
  refine sg_Mo_cut_35 X (fun _ _ _ _ _ _ h => h) (hw_rtv X hr hlk) ?_
  unfold vc_Mo_cut_35
  refine ⟨_, ⟨_, (va_up_self _ _ _), rfl⟩, fun _ => ⟨hw_00, ?_⟩, (fun h => absurd (by decide) h)⟩
  rw [bx_uu, bx_uu, bx_uu]
  exact bx_uu _ _ _ _
set_option maxHeartbeats 4000000 in
set_option maxRecDepth 100000 in
theorem ct_Mo_isWord0 (l : Launch) (g : hw_G) (w : hw_H) {M : Nat} {m0 : Nat → Nat} {ty wo ne si fa hn : Int32} {x y z : Int32} (hM : w M = some (mo_o m0 ty wo ne si fa hn)) (h : ¬ ne < wo) : hw_Mi l g ym_Mo_isWord mw_Mo_isWord (hw_R 1 0 0) [.ref M, .int x, .int y, .int z] w (fun r w' => r = 0 ∧ w' = w) := by
  refine hw_enteri (r := 2) rfl rfl (by simp [Value.category]) (Nat.le_of_ble_eq_true rfl) ?_
  intro p e s m args below meth c A X hr hlk hnm
  refine sg_Mo_isWord_0 X (fun _ _ _ _ _ _ h => h) (hw_rtz X hr hlk) ?_
  unfold vc_Mo_isWord_0
  exact ⟨_, ⟨_, hM, rfl⟩, _, ⟨_, hM, rfl⟩, fun h9 => absurd h9 h, fun _ => ⟨hw_00, Or.inl rfl, rfl, rfl⟩⟩
set_option maxHeartbeats 4000000 in
set_option maxRecDepth 100000 in
theorem ct_Mo_isNumber0 (l : Launch) (g : hw_G) (w : hw_H) {M : Nat} {m0 : Nat → Nat} {ty wo ne si fa hn : Int32} {x y : Int32} (hM : w M = some (mo_o m0 ty wo ne si fa hn)) (h : ¬ ne < wo) : hw_Mi l g ym_Mo_isNumber mw_Mo_isNumber (hw_R 1 0 0) [.ref M, .int x, .int y] w (fun r w' => r = 0 ∧ w' = w) := by
  refine hw_enteri (r := 4) rfl rfl (by simp [Value.category]) (Nat.le_of_ble_eq_true rfl) ?_
  intro p e s m args below meth c A X hr hlk hnm
  refine sg_Mo_isNumber_0 X (fun _ _ _ _ _ _ h => h) (hw_rtz X hr hlk) ?_
  unfold vc_Mo_isNumber_0
  exact ⟨_, ⟨_, hM, rfl⟩, _, ⟨_, hM, rfl⟩, fun h9 => absurd h9 h, fun _ => ⟨hw_00, Or.inl rfl, rfl, rfl⟩⟩
set_option maxHeartbeats 4000000 in
set_option maxRecDepth 100000 in
theorem ct_Mo_fail0 (l : Launch) (g : hw_G) (w : hw_H) {M : Nat} {m0 : Nat → Nat} {ty ne fa hn : Int32} (hM : w M = some (mo_o m0 ty 0 ne 0 fa hn)) (hn0 : (0 : Int32) ≤ ne) (hf : fa = -1 ∨ fa = 0) : hw_Mv l g ym_Mo_fail mw_Mo_fail (hw_R 1 0 0) [.ref M] w (fun w' => w' = va_up w M (some (mo_o m0 ty 0 ne 0 0 hn))) := by
  refine hw_enterv (r := 0) rfl rfl (by simp [Value.category]) (Nat.le_of_ble_eq_true rfl) ?_
  intro p e s m args below meth c A X hr hlk hnm
  refine sg_Mo_fail_0 X (fun _ _ _ _ _ _ h => h) (hw_rtv X hr hlk) ?_
  unfold vc_Mo_fail_0
  rcases hf with rfl | rfl
  · exact ⟨_, ⟨_, hM, rfl⟩, fun _ => ⟨_, ⟨_, hM, rfl⟩, _, ⟨_, hM, rfl⟩, fun _ => ⟨_, ⟨_, hM, rfl⟩, _, ⟨_, hM, Nat.le_of_ble_eq_true rfl, rfl⟩, hw_00, rfl⟩, fun h => absurd hn0 h⟩, (fun h => absurd (by decide) h)⟩
  · exact ⟨_, ⟨_, hM, rfl⟩, fun h => absurd h (by decide), fun _ => ⟨_, ⟨_, hM, rfl⟩, _, ⟨_, hM, Nat.le_of_ble_eq_true rfl, rfl⟩, hw_00, rfl⟩⟩
set_option maxHeartbeats 4000000 in
set_option maxRecDepth 100000 in
theorem ct_Mo_expect0 (l : Launch) (g : hw_G) (w : hw_H) {M : Nat} {m0 : Nat → Nat} {ty ne fa hn x y z : Int32} (hM : w M = some (mo_o m0 ty 0 ne 0 fa hn)) (hn0 : (0 : Int32) ≤ ne) (hf : fa = -1 ∨ fa = 0) : hw_Mv l g ym_Mo_expect mw_Mo_expect (hw_R 2 0 0) [.ref M, .int x, .int y, .int z] w (fun w' => w' = va_up w M (some (mo_o m0 ty 0 (ne + 1) 0 0 hn))) := by
  refine hw_enterv (r := 0) rfl rfl (by simp [Value.category]) (Nat.le_of_ble_eq_true rfl) ?_
  intro p e s m args below meth c A X hr hlk hnm
  refine sg_Mo_expect_0 X (fun _ _ _ _ _ _ h => h) (hw_rtv X hr hlk) ?_
  unfold vc_Mo_expect_0
  refine ⟨hw_o_of hM rfl rfl, hw_ci_0 (by decide) (by decide) (ct_Mo_isWord0 l g w hM (Int32.not_lt.mpr hn0)) (Nat.zero_le _) (Nat.zero_le _) ?_⟩
  rintro r w1 ⟨rfl, rfl⟩
  refine ⟨fun h => absurd rfl h, fun _ => ⟨hw_o_of hM rfl rfl, hw_cv_0 (by decide) (by decide) (ct_Mo_fail0 l g w1 hM hn0 hf) (Nat.zero_le _) (Nat.zero_le _) ?_⟩⟩
  rintro w2 rfl
  exact ⟨_, ⟨_, (va_up_self _ _ _), rfl⟩, _, ⟨_, (va_up_self _ _ _), Nat.le_of_ble_eq_true rfl, rfl⟩, hw_00, bx_uu _ _ _ _⟩
set_option maxHeartbeats 4000000 in
set_option maxRecDepth 100000 in
theorem ct_Mo_takeb (l : Launch) (g : hw_G) (w : hw_H) {M : Nat} {m0 : Nat → Nat} {ty wo ne si hn x y : Int32} (hM : w M = some (mo_o m0 ty wo ne si 0 hn)) : hw_Mi l g ym_Mo_take mw_Mo_take (hw_R 2 0 0) [.ref M, .int x, .int y] w (fun r w' => r = 0 ∧ w' = w) := by
  refine hw_enteri (r := 1) rfl rfl (by simp [Value.category]) (Nat.le_of_ble_eq_true rfl) ?_
  intro p e s m args below meth c A X hr hlk hnm
  refine sg_Mo_take_0 X (fun _ _ _ _ _ _ h => h) (hw_rti X hr hlk) ?_
  unfold vc_Mo_take_0
  exact ⟨_, ⟨_, hM, rfl⟩, fun h => absurd h (by decide), fun _ => ⟨hw_00, rfl, rfl⟩⟩
set_option maxHeartbeats 4000000 in
set_option maxRecDepth 100000 in
theorem ct_Mo_takea (l : Launch) (g : hw_G) (w : hw_H) {M : Nat} {m0 : Nat → Nat} {ty ne hn x y : Int32} (hM : w M = some (mo_o m0 ty 0 ne 0 (-1) hn)) (hn0 : (0 : Int32) ≤ ne) : hw_Mi l g ym_Mo_take mw_Mo_take (hw_R 2 0 0) [.ref M, .int x, .int y] w (fun r w' => r = 0 ∧ w' = va_up w M (some (mo_o m0 ty 0 ne 0 0 hn))) := by
  refine hw_enteri (r := 1) rfl rfl (by simp [Value.category]) (Nat.le_of_ble_eq_true rfl) ?_
  intro p e s m args below meth c A X hr hlk hnm
  refine sg_Mo_take_0 X (fun _ _ _ _ _ _ h => h) (hw_rti X hr hlk) ?_
  unfold vc_Mo_take_0
  refine ⟨_, ⟨_, hM, rfl⟩, fun _ => ⟨hw_o_of hM rfl rfl, hw_ci_0 (by decide) (by decide) (ct_Mo_isNumber0 l g w hM (Int32.not_lt.mpr hn0)) (Nat.zero_le _) (Nat.zero_le _) ?_⟩, (fun h => absurd (by decide) h)⟩
  rintro r w1 ⟨rfl, rfl⟩
  refine ⟨fun h => absurd rfl h, fun _ => ⟨hw_o_of hM rfl rfl, hw_cv_0 (by decide) (by decide) (ct_Mo_fail0 l g w1 hM hn0 (Or.inl rfl)) (Nat.zero_le _) (Nat.zero_le _) ?_⟩⟩
  rintro w2 rfl
  exact ⟨hw_00, rfl, rfl⟩
set_option maxHeartbeats 4000000 in
set_option maxRecDepth 100000 in
theorem ct_Mo_readClause0 (l : Launch) (g : hw_G) (w : hw_H) {M : Nat} {m0 : Nat → Nat} {ty wo ne si hn v : Int32} {f : Nat → Int32} (hM : w M = some (mo_o m0 ty wo ne si 0 hn)) (hA : w (m0 3) = some (.inl (g.2.1 0, 89, .inl f))) : hw_Mv l g ym_Mo_readClause mw_Mo_readClause (hw_R 1 0 0) [.ref M, .int 64, .int v] w (fun w' => w' = va_up w (m0 3) (some (.inl (g.2.1 0, 89, .inl (upd f (64 : Int32).toNatClampNeg 0))))) := by
  refine hw_enterv (r := 3) rfl rfl (by simp [Value.category]) (Nat.le_of_ble_eq_true rfl) ?_
  intro p e s m args below meth c A X hr hlk hnm
  refine sg_Mo_readClause_0 X (fun _ _ _ _ _ _ h => h) (hw_rtv X hr hlk) ?_
  unfold vc_Mo_readClause_0
  have hne : M ≠ m0 3 := by intro z; rw [← z, hM] at hA; cases hA
  refine ⟨_, ⟨_, hM, rfl⟩, _, ⟨_, _, hA, by unfold vp_in; decide, rfl⟩, ?_⟩
  refine sg_Mo_readClause_9 X (fun _ _ _ _ _ _ h => h) (hw_rtv X hr hlk) ?_
  unfold vc_Mo_readClause_9
  exact ⟨fun h => absurd h (by decide), fun _ => ⟨_, ⟨_, by rw [va_up_ne _ _ hne]; exact hM, rfl⟩, fun _ => ⟨hw_00, rfl⟩, (fun h => absurd (by decide) h)⟩⟩
set_option maxHeartbeats 4000000 in
set_option maxRecDepth 100000 in
theorem ct_Mo_readHints0 (l : Launch) (g : hw_G) (w : hw_H) {M : Nat} {m0 : Nat → Nat} {ty wo ne si hn v : Int32} (hM : w M = some (mo_o m0 ty wo ne si 0 hn)) : hw_Mv l g ym_Mo_readHints mw_Mo_readHints (hw_R 1 0 0) [.ref M, .int v] w (fun w' => w' = va_up w M (some (mo_o m0 ty wo ne si 0 0))) := by
  refine hw_enterv (r := 3) rfl rfl (by simp [Value.category]) (Nat.le_of_ble_eq_true rfl) ?_
  intro p e s m args below meth c A X hr hlk hnm
  refine sg_Mo_readHints_0 X (fun _ _ _ _ _ _ h => h) (hw_rtv X hr hlk) ?_
  unfold vc_Mo_readHints_0
  refine ⟨_, ⟨_, hM, Nat.le_of_ble_eq_true rfl, rfl⟩, ?_⟩
  refine sg_Mo_readHints_7 X (fun _ _ _ _ _ _ h => h) (hw_rtv X hr hlk) ?_
  unfold vc_Mo_readHints_7
  exact ⟨fun h => absurd h (by decide), fun _ => ⟨_, ⟨_, (va_up_self _ _ _), rfl⟩, fun _ => ⟨hw_00, rfl⟩, (fun h => absurd (by decide) h)⟩⟩
set_option maxHeartbeats 4000000 in
set_option maxRecDepth 100000 in
theorem ct_Mo_read0 (l : Launch) (g : hw_G) (w : hw_H) {M : Nat} {m0 : Nat → Nat} {wo ne si fa hn : Int32} (hM : w M = some (mo_o m0 0 wo ne si fa hn)) : hw_Mi l g ym_Mo_read mw_Mo_read (hw_R 3 0 0) [.ref M] w (fun r w' => r = -1) := by
  refine hw_enteri (r := 3) rfl rfl (by simp [Value.category]) (Nat.le_of_ble_eq_true rfl) ?_
  intro p e s m args below meth c A X hr hlk hnm
  refine sg_Mo_read_0 X (fun _ _ _ _ _ _ h => h) (hw_rti X hr hlk) ?_
  unfold vc_Mo_read_0
  refine ⟨hw_o_of hM rfl rfl, hw_cv_0 (by decide) (by decide) (ct_Mo_cut0 l g w hM) (Nat.zero_le _) (Nat.zero_le _) ?_⟩
  rintro w1 rfl
  refine ⟨hw_o_of (va_up_self _ _ _) rfl rfl, hw_cv_0 (by decide) (by decide) (ct_Mo_expect0 (m0 := m0) (ty := 0) (ne := 0) (fa := -1) (hn := hn) l g _ (va_up_self _ _ _) (by decide) (Or.inl rfl)) (Nat.zero_le _) (Nat.zero_le _) ?_⟩
  rintro w2 rfl
  refine ⟨hw_o_of (va_up_self _ _ _) rfl rfl, hw_cv_0 (by decide) (by decide) (ct_Mo_expect0 (m0 := m0) (ty := 0) (ne := 0 + 1) (fa := 0) (hn := hn) l g _ (va_up_self _ _ _) (by decide) (Or.inr rfl)) (Nat.zero_le _) (Nat.zero_le _) ?_⟩
  rintro w3 rfl
  refine ⟨hw_o_of (va_up_self _ _ _) rfl rfl, hw_ci_0 (by decide) (by decide) (ct_Mo_takeb (m0 := m0) (ty := 0) (wo := 0) (ne := 0 + 1 + 1) (si := 0) (hn := hn) l g _ (va_up_self _ _ _)) (Nat.zero_le _) (Nat.zero_le _) ?_⟩
  rintro r w4 ⟨rfl, rfl⟩
  refine ⟨hw_o_of (va_up_self _ _ _) rfl rfl, hw_ci_0 (by decide) (by decide) (ct_Mo_takeb (m0 := m0) (ty := 0) (wo := 0) (ne := 0 + 1 + 1) (si := 0) (hn := hn) l g _ (va_up_self _ _ _)) (Nat.zero_le _) (Nat.zero_le _) ?_⟩
  rintro r w5 ⟨rfl, rfl⟩
  refine sg_Mo_read_41 X (fun _ _ _ _ _ _ h => h) (hw_rti X hr hlk) ?_
  unfold vc_Mo_read_41
  refine ⟨fun _ => ?_, (fun h => absurd (by decide) h)⟩
  refine sg_Mo_read_68 X (fun _ _ _ _ _ _ h => h) (hw_rti X hr hlk) ?_
  unfold vc_Mo_read_68
  exact ⟨_, ⟨_, (va_up_self _ _ _), rfl⟩, fun _ => ⟨_, ⟨_, (va_up_self _ _ _), rfl⟩, fun h => absurd h (by decide), fun _ => ⟨_, ⟨_, (va_up_self _ _ _), rfl⟩, hw_00, by decide⟩⟩, (fun h => absurd (by decide) h)⟩
set_option maxHeartbeats 4000000 in
set_option maxRecDepth 100000 in
theorem ct_Mo_line0 (l : Launch) (g : hw_G) (w : hw_H) {M : Nat} {m0 : Nat → Nat} {wo ne si fa hn : Int32} (hM : w M = some (mo_o m0 0 wo ne si fa hn)) (hA : w (m0 3) = some (ai_0 g 0 89)) : hw_Mi l g ym_Mo_line mw_Mo_line (hw_R 3 0 0) [.ref M] w (fun r w' => r = -1) := by
  refine hw_enteri (r := 2) rfl rfl (by simp [Value.category]) (Nat.le_of_ble_eq_true rfl) ?_
  intro p e s m args below meth c A X hr hlk hnm
  refine sg_Mo_line_0 X (fun _ _ _ _ _ _ h => h) (hw_rti X hr hlk) ?_
  unfold vc_Mo_line_0
  have hne : M ≠ m0 3 := by intro z; rw [← z, hM] at hA; cases hA
  refine ⟨hw_o_of hM rfl rfl, hw_cv_0 (by decide) (by decide) (ct_Mo_cut0 l g w hM) (Nat.zero_le _) (Nat.zero_le _) ?_⟩
  rintro w1 rfl
  refine ⟨hw_o_of (va_up_self _ _ _) rfl rfl, hw_ci_0 (by decide) (by decide) (ct_Mo_takea (m0 := m0) (ty := 0) (ne := 0) (hn := hn) l g _ (va_up_self _ _ _) (by decide)) (Nat.zero_le _) (Nat.zero_le _) ?_⟩
  rintro r w2 ⟨rfl, rfl⟩
  have aM : (va_up (va_up w M (some (mo_o m0 0 0 0 0 (-1) hn))) M (some (mo_o m0 0 0 0 0 0 hn))) M = some (mo_o m0 0 0 0 0 0 hn) := (va_up_self _ _ _)
  have aA : (va_up (va_up w M (some (mo_o m0 0 0 0 0 (-1) hn))) M (some (mo_o m0 0 0 0 0 0 hn))) (m0 3) = some (ai_0 g 0 89) := by rw [va_up_ne _ _ hne.symm, va_up_ne _ _ hne.symm]; exact hA
  generalize va_up (va_up w M (some (mo_o m0 0 0 0 0 (-1) hn))) M (some (mo_o m0 0 0 0 0 0 hn)) = w3 at aM aA ⊢
  refine ⟨_, ⟨_, aM, rfl⟩, fun _ => ?_, (fun h => absurd (by decide) h)⟩
  refine sg_Mo_line_36 X (fun _ _ _ _ _ _ h => h) (hw_rti X hr hlk) ?_
  unfold vc_Mo_line_36
  refine sg_Mo_line_37 X (fun _ _ _ _ _ _ h => h) (hw_rti X hr hlk) ?_
  unfold vc_Mo_line_37
  refine ⟨fun _ => ⟨_, ⟨_, aM, rfl⟩, hw_o_of aM rfl rfl, hw_cv_0 (by decide) (by decide) (ct_Mo_readClause0 l g w3 aM aA) (Nat.zero_le _) (Nat.zero_le _) ?_⟩, fun h => absurd rfl h⟩
  rintro w4 rfl
  have bM : ∀ x, (va_up w3 (m0 3) x) M = some (mo_o m0 0 0 0 0 0 hn) := fun x => by rw [va_up_ne _ _ hne]; exact aM
  refine ⟨hw_o_of (bM _) rfl rfl, hw_cv_0 (by decide) (by decide) (ct_Mo_readHints0 l g _ (bM _)) (Nat.zero_le _) (Nat.zero_le _) ?_⟩
  rintro w5 rfl
  exact ⟨_, ⟨_, (va_up_self _ _ _), rfl⟩, fun _ => ⟨_, ⟨_, (va_up_self _ _ _), rfl⟩, fun h => absurd h (by decide), fun _ => ⟨_, ⟨_, (va_up_self _ _ _), rfl⟩, hw_00, by decide⟩⟩, (fun h => absurd (by decide) h)⟩
set_option maxHeartbeats 4000000 in
set_option maxRecDepth 100000 in
theorem ct_Mo_variables0 (l : Launch) (g : hw_G) (w : hw_H) {M : Nat} {m0 : Nat → Nat} {ty wo ne si fa hn : Int32} (hM : w M = some (mo_o m0 ty wo ne si fa hn)) : hw_Mi l g ym_Mo_variables mw_Mo_variables (hw_R 1 0 0) [.ref M] w (fun r w' => r = 0) := by
  refine hw_enteri (r := 0) rfl rfl (by simp [Value.category]) (Nat.le_of_ble_eq_true rfl) ?_
  intro p e s m args below meth c A X hr hlk hnm
  refine sg_Mo_variables_0 X (fun _ _ _ _ _ _ h => h) (hw_rti X hr hlk) ?_
  unfold vc_Mo_variables_0
  exact ⟨_, ⟨_, hM, rfl⟩, hw_00, rfl⟩
set_option maxHeartbeats 4000000 in
set_option maxRecDepth 100000 in
theorem ct_Mo_live0 (l : Launch) (g : hw_G) (w : hw_H) {M : Nat} {m0 : Nat → Nat} {ty wo ne si fa hn : Int32} (hM : w M = some (mo_o m0 ty wo ne si fa hn)) : hw_Mi l g ym_Mo_live mw_Mo_live (hw_R 1 0 0) [.ref M] w (fun r w' => r = 0) := by
  refine hw_enteri (r := 0) rfl rfl (by simp [Value.category]) (Nat.le_of_ble_eq_true rfl) ?_
  intro p e s m args below meth c A X hr hlk hnm
  refine sg_Mo_live_0 X (fun _ _ _ _ _ _ h => h) (hw_rti X hr hlk) ?_
  unfold vc_Mo_live_0
  exact ⟨_, ⟨_, hM, rfl⟩, hw_00, rfl⟩
set_option maxHeartbeats 4000000 in
set_option maxRecDepth 100000 in
theorem ct_Mo_refuted0 (l : Launch) (g : hw_G) (w : hw_H) {M : Nat} {m0 : Nat → Nat} {ty wo ne si fa hn : Int32} (hM : w M = some (mo_o m0 ty wo ne si fa hn)) : hw_Mi l g ym_Mo_refuted mw_Mo_refuted (hw_R 1 0 0) [.ref M] w (fun r w' => r = 0) := by
  refine hw_enteri (r := 0) rfl rfl (by simp [Value.category]) (Nat.le_of_ble_eq_true rfl) ?_
  intro p e s m args below meth c A X hr hlk hnm
  refine sg_Mo_refuted_0 X (fun _ _ _ _ _ _ h => h) (hw_rtz X hr hlk) ?_
  unfold vc_Mo_refuted_0
  exact ⟨_, ⟨_, hM, rfl⟩, hw_00, Or.inl rfl, rfl⟩
set_option maxHeartbeats 4000000 in
set_option maxRecDepth 100000 in
theorem ct_Mo_find0 (l : Launch) (g : hw_G) (w : hw_H) {M : Nat} {m0 : Nat → Nat} {ty wo ne si fa hn : Int32} {x : Int32} (hM : w M = some (mo_o m0 ty wo ne si fa hn)) : hw_Mi l g ym_Mo_find mw_Mo_find (hw_R 1 0 0) [.ref M, .int x] w (fun r w' => r = -1 ∧ w' = w) := by
  refine hw_enteri (r := 2) rfl rfl (by simp [Value.category]) (Nat.le_of_ble_eq_true rfl) ?_
  intro p e s m args below meth c A X hr hlk hnm
  refine sg_Mo_find_0 X (fun _ _ _ _ _ _ h => h) (hw_rti X hr hlk) ?_
  unfold vc_Mo_find_0
  refine sg_Mo_find_4 X (fun _ _ _ _ _ _ h => h) (hw_rti X hr hlk) ?_
  unfold vc_Mo_find_4
  exact ⟨_, ⟨_, hM, rfl⟩, fun _ => ⟨hw_00, rfl, rfl⟩, (fun h => absurd (by decide) h)⟩
set_option maxHeartbeats 4000000 in
set_option maxRecDepth 100000 in
theorem ct_Mo_literal0 (l : Launch) (g : hw_G) (w : hw_H) {M : Nat} {m0 : Nat → Nat} {ty wo ne si fa hn : Int32} {x y : Int32} (hM : w M = some (mo_o m0 ty wo ne si fa hn)) : hw_Mi l g ym_Mo_literal mw_Mo_literal (hw_R 2 0 0) [.ref M, .int x, .int y] w (fun r w' => r = 0) := by
  refine hw_enteri (r := 1) rfl rfl (by simp [Value.category]) (Nat.le_of_ble_eq_true rfl) ?_
  intro p e s m args below meth c A X hr hlk hnm
  refine sg_Mo_literal_0 X (fun _ _ _ _ _ _ h => h) (hw_rti X hr hlk) ?_
  unfold vc_Mo_literal_0
  refine ⟨hw_o_of hM rfl rfl, hw_ci_0 (by decide) (by decide) (ct_Mo_find0 l g w hM) (Nat.zero_le _) (Nat.zero_le _) ?_⟩
  rintro r w1 ⟨rfl, rfl⟩
  exact ⟨fun _ => ⟨hw_00, rfl⟩, (fun h => absurd (by decide) h)⟩
set_option maxHeartbeats 4000000 in
set_option maxRecDepth 100000 in
theorem ct_Mo_satisfies0 (l : Launch) (g : hw_G) (w : hw_H) {M : Nat} {m0 : Nat → Nat} {ty wo ne si fa hn : Int32} {x : Int32} (hM : w M = some (mo_o m0 ty wo ne si fa hn)) : hw_Mi l g ym_Mo_satisfies mw_Mo_satisfies (hw_R 1 0 0) [.ref M, .int x] w (fun r w' => r = 1 ∧ w' = w) := by
  refine hw_enteri (r := 4) rfl rfl (by simp [Value.category]) (Nat.le_of_ble_eq_true rfl) ?_
  intro p e s m args below meth c A X hr hlk hnm
  refine sg_Mo_satisfies_0 X (fun _ _ _ _ _ _ h => h) (hw_rtz X hr hlk) ?_
  unfold vc_Mo_satisfies_0
  refine sg_Mo_satisfies_4 X (fun _ _ _ _ _ _ h => h) (hw_rtz X hr hlk) ?_
  unfold vc_Mo_satisfies_4
  exact ⟨_, ⟨_, hM, rfl⟩, fun _ => ⟨hw_00, Or.inr rfl, rfl, rfl⟩, (fun h => absurd (by decide) h)⟩
set_option maxHeartbeats 4000000 in
set_option maxRecDepth 100000 in
theorem ct_Mo_least0 (l : Launch) (g : hw_G) (w : hw_H) {M : Nat} {m0 : Nat → Nat} {ty wo ne si fa hn : Int32} (hM : w M = some (mo_o m0 ty wo ne si fa hn)) : hw_Mi l g ym_Mo_least mw_Mo_least (hw_R 2 0 0) [.ref M] w (fun r w' => r = 0 ∧ w' = w) := by
  refine hw_enteri (r := 2) rfl rfl (by simp [Value.category]) (Nat.le_of_ble_eq_true rfl) ?_
  intro p e s m args below meth c A X hr hlk hnm
  refine sg_Mo_least_0 X (fun _ _ _ _ _ _ h => h) (hw_rti X hr hlk) ?_
  unfold vc_Mo_least_0
  refine sg_Mo_least_4 X (fun _ _ _ _ _ _ h => h) (hw_rti X hr hlk) ?_
  unfold vc_Mo_least_4
  refine ⟨_, ⟨_, hM, rfl⟩, fun h => absurd h (by decide), fun _ => ⟨fun h => absurd h (by decide), fun _ => ⟨hw_o_of hM rfl rfl, hw_ci_0 (by decide) (by decide) (ct_Mo_satisfies0 l g w hM) (Nat.zero_le _) (Nat.zero_le _) ?_⟩⟩⟩
  rintro r w1 ⟨rfl, rfl⟩
  refine ⟨fun h => absurd h (by decide), fun _ => ?_⟩
  refine sg_Mo_least_4 X (fun _ _ _ _ _ _ h => h) (hw_rti X hr hlk) ?_
  unfold vc_Mo_least_4
  exact ⟨_, ⟨_, hM, rfl⟩, fun _ => ⟨hw_00, rfl, rfl⟩, (fun h => absurd (by decide) h)⟩
set_option maxHeartbeats 4000000 in
set_option maxRecDepth 100000 in
theorem ct_Mo_solve0 (l : Launch) (g : hw_G) (w : hw_H) {M : Nat} {m0 : Nat → Nat} {ty wo ne si fa hn : Int32} (hM : w M = some (mo_o m0 ty wo ne si fa hn)) : hw_Mi l g ym_Mo_solve mw_Mo_solve (hw_R 3 0 0) [.ref M] w (fun r w' => r = 1) := by
  refine hw_enteri (r := 0) rfl rfl (by simp [Value.category]) (Nat.le_of_ble_eq_true rfl) ?_
  intro p e s m args below meth c A X hr hlk hnm
  refine sg_Mo_solve_0 X (fun _ _ _ _ _ _ h => h) (hw_rti X hr hlk) ?_
  unfold vc_Mo_solve_0
  refine ⟨hw_o_of hM rfl rfl, hw_ci_0 (by decide) (by decide) (ct_Mo_least0 l g w hM) (Nat.zero_le _) (Nat.zero_le _) ?_⟩
  rintro r w1 ⟨rfl, rfl⟩
  exact ⟨fun h => absurd h (by decide), fun _ => ⟨hw_00, rfl⟩⟩
set_option maxHeartbeats 4000000 in
set_option maxRecDepth 100000 in
theorem ct_Mo_proves0 (l : Launch) (g : hw_G) (w : hw_H) {M : Nat} {m0 : Nat → Nat} {ty wo ne si fa hn : Int32} (hM : w M = some (mo_o m0 ty wo ne si fa hn)) : hw_Mi l g ym_Mo_proves mw_Mo_proves (hw_R 3 0 0) [.ref M] w (fun r w' => r = 0) := by
  refine hw_enteri (r := 0) rfl rfl (by simp [Value.category]) (Nat.le_of_ble_eq_true rfl) ?_
  intro p e s m args below meth c A X hr hlk hnm
  refine sg_Mo_proves_0 X (fun _ _ _ _ _ _ h => h) (hw_rtz X hr hlk) ?_
  unfold vc_Mo_proves_0
  refine ⟨hw_o_of hM rfl rfl, hw_ci_0 (by decide) (by decide) (ct_Mo_least0 l g w hM) (Nat.zero_le _) (Nat.zero_le _) ?_⟩
  rintro r w1 ⟨rfl, rfl⟩
  exact ⟨fun _ => ⟨hw_00, Or.inl rfl, rfl⟩, (fun h => absurd (by decide) h)⟩
set_option maxHeartbeats 4000000 in
set_option maxRecDepth 100000 in
theorem ct_Mo_value0 (l : Launch) (g : hw_G) (w : hw_H) {M : Nat} {m0 : Nat → Nat} {ty wo ne si fa hn : Int32} {x : Int32} (hM : w M = some (mo_o m0 ty wo ne si fa hn)) : hw_Mi l g ym_Mo_value mw_Mo_value (hw_R 3 0 0) [.ref M, .int x] w (fun r w' => r = -1) := by
  refine hw_enteri (r := 1) rfl rfl (by simp [Value.category]) (Nat.le_of_ble_eq_true rfl) ?_
  intro p e s m args below meth c A X hr hlk hnm
  refine sg_Mo_value_0 X (fun _ _ _ _ _ _ h => h) (hw_rti X hr hlk) ?_
  unfold vc_Mo_value_0
  refine ⟨hw_o_of hM rfl rfl, hw_ci_0 (by decide) (by decide) (ct_Mo_least0 l g w hM) (Nat.zero_le _) (Nat.zero_le _) ?_⟩
  rintro r w1 ⟨rfl, rfl⟩
  refine ⟨_, ⟨_, hM, rfl⟩, hw_ci_0 (by decide) (by decide) (ct_Mo_in l g w1) (Nat.zero_le _) (Nat.zero_le _) ?_⟩
  rintro r w2 ⟨rfl, rfl⟩
  exact ⟨fun _ => ⟨hw_00, rfl⟩, fun h => absurd (by rw [in_1]; rfl) h⟩
set_option maxHeartbeats 4000000 in
set_option maxRecDepth 100000 in
theorem ct_Mo_count0 (l : Launch) (g : hw_G) (w : hw_H) {M : Nat} {m0 : Nat → Nat} {ty wo ne si fa hn : Int32} (hM : w M = some (mo_o m0 ty wo ne si fa hn)) : hw_Mi l g ym_Mo_count mw_Mo_count (hw_R 2 0 0) [.ref M] w (fun r w' => r = 1) := by
  refine hw_enteri (r := 2) rfl rfl (by simp [Value.category]) (Nat.le_of_ble_eq_true rfl) ?_
  intro p e s m args below meth c A X hr hlk hnm
  refine sg_Mo_count_0 X (fun _ _ _ _ _ _ h => h) (hw_rti X hr hlk) ?_
  unfold vc_Mo_count_0
  refine sg_Mo_count_4 X (fun _ _ _ _ _ _ h => h) (hw_rti X hr hlk) ?_
  unfold vc_Mo_count_4
  refine ⟨_, ⟨_, hM, rfl⟩, fun h => absurd h (by decide), fun _ => ⟨hw_o_of hM rfl rfl, hw_ci_0 (by decide) (by decide) (ct_Mo_satisfies0 l g w hM) (Nat.zero_le _) (Nat.zero_le _) ?_⟩⟩
  rintro r w1 ⟨rfl, rfl⟩
  refine ⟨fun h => absurd h (by decide), fun _ y hy => ?_⟩
  subst hy
  refine sg_Mo_count_4 X (fun _ _ _ _ _ _ h => h) (hw_rti X hr hlk) ?_
  unfold vc_Mo_count_4
  exact ⟨_, ⟨_, hM, rfl⟩, fun _ => ⟨hw_00, by decide⟩, (fun h => absurd (by decide) h)⟩
set_option maxHeartbeats 4000000 in
set_option maxRecDepth 100000 in
theorem ct_Mo_forget0 (l : Launch) (g : hw_G) (w : hw_H) {M : Nat} {m0 : Nat → Nat} {ty wo ne si fa hn : Int32} (hM : w M = some (mo_o m0 ty wo ne si fa hn)) (hK : w (m0 7) = some (ai_0 g 2 21)) : hw_Mv l g ym_Mo_forget mw_Mo_forget (hw_R 1 0 0) [.ref M] w (fun w' => w' = w) := by
  refine hw_enterv (r := 1) rfl rfl (by simp [Value.category]) (Nat.le_of_ble_eq_true rfl) ?_
  intro p e s m args below meth c A X hr hlk hnm
  refine sg_Mo_forget_0 X (fun _ _ _ _ _ _ h => h) (hw_rtv X hr hlk) ?_
  unfold vc_Mo_forget_0
  have L : ∀ (d i : Nat), i + d = 21 → hw_Jv p l e (hw_R 1 0 0) s m args below meth c 2 g A (fun w' => w' = w) 0 0 2 [some (.ref M), some (.int (nI i))] [] w := by
    intro d
    induction d with
    | zero =>
      intro i hi
      have hi2 : i = 21 := by omega
      subst hi2
      refine sg_Mo_forget_2 X (fun _ _ _ _ _ _ h => h) (hw_rtv X hr hlk) ?_
      unfold vc_Mo_forget_2
      exact ⟨fun _ => ⟨hw_00, rfl⟩, (fun h => absurd (by decide) h)⟩
    | succ d ih =>
      intro i hi
      refine sg_Mo_forget_2 X (fun _ _ _ _ _ _ h => h) (hw_rtv X hr hlk) ?_
      unfold vc_Mo_forget_2
      refine ⟨fun h => absurd h (nI_ge (b := 21) (by omega) (by omega)), fun _ => ⟨_, ⟨_, hM, rfl⟩, w, as_z hK (vp_in_nI (by omega) (by omega)), ?_⟩⟩
      rw [nI_1]
      exact ih (i + 1) (by omega)
  exact L 21 0 rfl
set_option maxHeartbeats 4000000 in
set_option maxRecDepth 100000 in
theorem ct_Mo_forced0 (l : Launch) (g : hw_G) (w : hw_H) {M : Nat} {m0 : Nat → Nat} {ty wo ne si fa hn : Int32} {x y : Int32} (hM : w M = some (mo_o m0 ty wo ne si fa hn)) (hK : w (m0 7) = some (ai_0 g 2 21)) : hw_Mi l g ym_Mo_forced mw_Mo_forced (hw_R 2 0 0) [.ref M, .int x, .int y] w (fun r w' => r = (if x = 0 ∧ y = 0 then 0 else -2)) := by
  refine hw_enteri (r := 3) rfl rfl (by simp [Value.category]) (Nat.le_of_ble_eq_true rfl) ?_
  intro p e s m args below meth c A X hr hlk hnm
  refine sg_Mo_forced_0 X (fun _ _ _ _ _ _ h => h) (hw_rti X hr hlk) ?_
  unfold vc_Mo_forced_0
  refine ⟨_, ⟨_, hM, rfl⟩, _, ⟨_, hM, rfl⟩, hw_ci_0 (by decide) (by decide) (ct_Mo_in l g w) (Nat.zero_le _) (Nat.zero_le _) ?_⟩
  rintro r w1 ⟨rfl, rfl⟩
  rw [in_z]
  refine ⟨fun h => ⟨hw_00, ?_⟩, fun h => ⟨_, ⟨_, hM, rfl⟩, _, ⟨_, hM, rfl⟩, hw_ci_0 (by decide) (by decide) (ct_Mo_in l g w1) (Nat.zero_le _) (Nat.zero_le _) ?_⟩⟩
  · have := (hw_z_eq _).mp h
    simp at this
    rw [if_neg]; rintro ⟨h9, -⟩; exact this h9
  rintro r w2 ⟨rfl, rfl⟩
  have hx := (hw_z_ne _).mp h
  simp at hx
  subst hx
  rw [in_z]
  refine ⟨fun h2 => ⟨hw_00, ?_⟩, fun h2 => ?_⟩
  · have := (hw_z_eq _).mp h2
    simp at this
    rw [if_neg]; rintro ⟨-, h9⟩; exact this h9
  have hy := (hw_z_ne _).mp h2
  simp at hy
  subst hy
  refine ⟨fun _ => ?_, fun h3 => absurd rfl h3⟩
  refine sg_Mo_forced_45 X (fun _ _ _ _ _ _ h => h) (hw_rti X hr hlk) ?_
  unfold vc_Mo_forced_45
  refine ⟨hw_o_of hM rfl rfl, hw_cv_0 (by decide) (by decide) (ct_Mo_forget0 l g w2 hM hK) (Nat.zero_le _) (Nat.zero_le _) ?_⟩
  rintro w3 rfl
  have v10 : vp_in ((10 : Int32) + 0) 21 := by unfold vp_in; decide
  have v11 : vp_in (10 : Int32) 21 := by unfold vp_in; decide
  refine ⟨_, ⟨_, hM, rfl⟩, fun _ => ⟨w3, as_z hK v10, _, ⟨_, hM, rfl⟩, fun h3 => absurd rfl h3, fun _ => ⟨_, ⟨_, hM, rfl⟩, _, ⟨_, _, hK, v10, rfl⟩, fun _ => ⟨w3, as_z hK v10, _, ⟨_, hM, rfl⟩, w3, as_z hK v11, ?_⟩, fun h3 => absurd rfl h3⟩⟩, fun h3 => absurd rfl h3⟩
  refine sg_Mo_forced_107 X (fun _ _ _ _ _ _ h => h) (hw_rti X hr hlk) ?_
  unfold vc_Mo_forced_107
  refine ⟨fun h3 => absurd h3 (by decide), fun _ => ?_⟩
  refine sg_Mo_forced_116 X (fun _ _ _ _ _ _ h => h) (hw_rti X hr hlk) ?_
  unfold vc_Mo_forced_116
  refine ⟨_, ⟨_, hM, rfl⟩, fun _ => ?_, (fun h => absurd (by decide) h)⟩
  refine sg_Mo_forced_107 X (fun _ _ _ _ _ _ h => h) (hw_rti X hr hlk) ?_
  unfold vc_Mo_forced_107
  refine ⟨fun _ => ?_, fun h3 => absurd rfl h3⟩
  have L : ∀ (d i : Nat), i + d = 21 → hw_Ji p l e (hw_R 2 0 0) s m args below meth c 6 g A (fun r w' => r = (if (0 : Int32) = 0 ∧ (0 : Int32) = 0 then 0 else -2)) 0 0 174 [some (.ref M), some (.int 0), some (.int 0), some (.int 0), some (.int 0), some (.int (nI i))] [] w3 := by
    intro d
    induction d with
    | zero =>
      intro i hi
      have hi2 : i = 21 := by omega
      subst hi2
      refine sg_Mo_forced_174 X (fun _ _ _ _ _ _ h => h) (hw_rti X hr hlk) ?_
      unfold vc_Mo_forced_174
      exact ⟨fun _ => ⟨hw_00, by decide⟩, (fun h => absurd (by decide) h)⟩
    | succ d ih =>
      intro i hi
      refine sg_Mo_forced_174 X (fun _ _ _ _ _ _ h => h) (hw_rti X hr hlk) ?_
      unfold vc_Mo_forced_174
      refine ⟨fun h => absurd h (nI_ge (b := 21) (by omega) (by omega)), fun _ => ⟨_, ⟨_, hM, rfl⟩, _, ⟨_, _, hK, vp_in_nI (by omega) (by omega), rfl⟩, fun _ => ?_, fun h3 => absurd rfl h3⟩⟩
      rw [nI_1]
      exact ih (i + 1) (by omega)
  exact L 21 0 rfl
set_option maxHeartbeats 4000000 in
set_option maxRecDepth 100000 in
theorem ct_Mo_init (l : Launch) (g : hw_G) (w : hw_H) {M : Nat} (hM : w M = some (.inr (8, [.null, .int 0, .int 0, .null, .null, .int 0, .int 0, .int 0, .int 0, .null, .null, .null, .int 0, .int 0, .int 0, .int 0, .int 0, .null, .null, .null, .int 0]))) : hw_Mv l g ym_Mo_init mw_Mo_init (hw_R 1 9 1057) [.ref M] w (fun w' => ∃ m0 : Nat → Nat, w (m0 0) = none ∧ w' M = some (mo_o m0 0 0 0 0 0 0) ∧ w' (m0 0) = some (ai_0 g 0 160) ∧ w' (m0 3) = some (ai_0 g 0 89) ∧ w' (m0 7) = some (ai_0 g 2 21) ∧ ∀ a, w a ≠ none → a ≠ M → w' a = w a) := by
  refine hw_enterv (r := 0) rfl rfl (by simp [Value.category]) (Nat.le_of_ble_eq_true rfl) ?_
  intro p e s m args below meth c A X hr hlk hnm
  refine sg_Mo_init_0 X hnm ⟨Nat.le_of_ble_eq_true rfl, Nat.le_of_ble_eq_true rfl⟩ (fun _ _ _ _ _ _ h => h) (hw_rtv X hr hlk) ?_
  unfold vc_Mo_init_0
  refine ⟨⟨Nat.le_of_ble_eq_true rfl, Nat.le_of_ble_eq_true rfl⟩, fun q1 w1 hq1 e1 => ?_⟩
  subst e1
  refine ⟨_, ⟨_, hw_un hM hq1 _, Nat.le_of_ble_eq_true rfl, rfl⟩, ?_⟩
  have k1 := hw_ku (S := M) (x := some (ai_0 g 0 160)) (y := some (.inr (8, (([.null, .int 0, .int 0, .null, .null, .int 0, .int 0, .int 0, .int 0, .null, .null, .null, .int 0, .int 0, .int 0, .int 0, .int 0, .null, .null, .null, .int 0] : List Value).set 0 (.ref q1))))) hq1
  have n1 : q1 ≠ M := (hw_nn hM hq1).symm
  refine ⟨⟨Nat.le_of_ble_eq_true rfl, Nat.le_of_ble_eq_true rfl⟩, fun q2 w2 hq2 e2 => ?_⟩
  subst e2
  refine ⟨_, ⟨_, hw_un (va_up_self _ _ _) hq2 _, Nat.le_of_ble_eq_true rfl, rfl⟩, ?_⟩
  have k2 := hw_ku (S := M) (x := some (ai_0 g 0 90)) (y := some (.inr (8, ((([.null, .int 0, .int 0, .null, .null, .int 0, .int 0, .int 0, .int 0, .null, .null, .null, .int 0, .int 0, .int 0, .int 0, .int 0, .null, .null, .null, .int 0] : List Value).set 0 (.ref q1)).set 3 (.ref q2))))) hq2
  refine ⟨⟨Nat.le_of_ble_eq_true rfl, Nat.le_of_ble_eq_true rfl⟩, fun q3 w3 hq3 e3 => ?_⟩
  subst e3
  refine ⟨_, ⟨_, hw_un (va_up_self _ _ _) hq3 _, Nat.le_of_ble_eq_true rfl, rfl⟩, ?_⟩
  have k3 := hw_ku (S := M) (x := some (ai_0 g 0 90)) (y := some (.inr (8, (((([.null, .int 0, .int 0, .null, .null, .int 0, .int 0, .int 0, .int 0, .null, .null, .null, .int 0, .int 0, .int 0, .int 0, .int 0, .null, .null, .null, .int 0] : List Value).set 0 (.ref q1)).set 3 (.ref q2)).set 4 (.ref q3))))) hq3
  refine ⟨⟨Nat.le_of_ble_eq_true rfl, Nat.le_of_ble_eq_true rfl⟩, fun q4 w4 hq4 e4 => ?_⟩
  subst e4
  refine ⟨_, ⟨_, hw_un (va_up_self _ _ _) hq4 _, Nat.le_of_ble_eq_true rfl, rfl⟩, ?_⟩
  have k4 := hw_ku (S := M) (x := some (ai_0 g 0 89)) (y := some (.inr (8, ((((([.null, .int 0, .int 0, .null, .null, .int 0, .int 0, .int 0, .int 0, .null, .null, .null, .int 0, .int 0, .int 0, .int 0, .int 0, .null, .null, .null, .int 0] : List Value).set 0 (.ref q1)).set 3 (.ref q2)).set 4 (.ref q3)).set 9 (.ref q4))))) hq4
  have n4 : q4 ≠ M := (hw_nn (va_up_self _ _ _) hq4).symm
  refine ⟨⟨Nat.le_of_ble_eq_true rfl, Nat.le_of_ble_eq_true rfl⟩, fun q5 w5 hq5 e5 => ?_⟩
  subst e5
  refine ⟨_, ⟨_, hw_un (va_up_self _ _ _) hq5 _, Nat.le_of_ble_eq_true rfl, rfl⟩, ?_⟩
  have k5 := hw_ku (S := M) (x := some (ai_0 g 0 534)) (y := some (.inr (8, (((((([.null, .int 0, .int 0, .null, .null, .int 0, .int 0, .int 0, .int 0, .null, .null, .null, .int 0, .int 0, .int 0, .int 0, .int 0, .null, .null, .null, .int 0] : List Value).set 0 (.ref q1)).set 3 (.ref q2)).set 4 (.ref q3)).set 9 (.ref q4)).set 10 (.ref q5))))) hq5
  refine ⟨⟨Nat.le_of_ble_eq_true rfl, Nat.le_of_ble_eq_true rfl⟩, fun q6 w6 hq6 e6 => ?_⟩
  subst e6
  refine ⟨_, ⟨_, hw_un (va_up_self _ _ _) hq6 _, Nat.le_of_ble_eq_true rfl, rfl⟩, ?_⟩
  have k6 := hw_ku (S := M) (x := some (ai_0 g 0 40)) (y := some (.inr (8, ((((((([.null, .int 0, .int 0, .null, .null, .int 0, .int 0, .int 0, .int 0, .null, .null, .null, .int 0, .int 0, .int 0, .int 0, .int 0, .null, .null, .null, .int 0] : List Value).set 0 (.ref q1)).set 3 (.ref q2)).set 4 (.ref q3)).set 9 (.ref q4)).set 10 (.ref q5)).set 11 (.ref q6))))) hq6
  refine ⟨⟨Nat.le_of_ble_eq_true rfl, Nat.le_of_ble_eq_true rfl⟩, fun q7 w7 hq7 e7 => ?_⟩
  subst e7
  refine ⟨_, ⟨_, hw_un (va_up_self _ _ _) hq7 _, Nat.le_of_ble_eq_true rfl, rfl⟩, ?_⟩
  have k7 := hw_ku (S := M) (x := some (ai_0 g 0 12)) (y := some (.inr (8, (((((((([.null, .int 0, .int 0, .null, .null, .int 0, .int 0, .int 0, .int 0, .null, .null, .null, .int 0, .int 0, .int 0, .int 0, .int 0, .null, .null, .null, .int 0] : List Value).set 0 (.ref q1)).set 3 (.ref q2)).set 4 (.ref q3)).set 9 (.ref q4)).set 10 (.ref q5)).set 11 (.ref q6)).set 17 (.ref q7))))) hq7
  refine ⟨⟨Nat.le_of_ble_eq_true rfl, Nat.le_of_ble_eq_true rfl⟩, fun q8 w8 hq8 e8 => ?_⟩
  subst e8
  refine ⟨_, ⟨_, hw_un (va_up_self _ _ _) hq8 _, Nat.le_of_ble_eq_true rfl, rfl⟩, ?_⟩
  have k8 := hw_ku (S := M) (x := some (ai_0 g 2 21)) (y := some (.inr (8, ((((((((([.null, .int 0, .int 0, .null, .null, .int 0, .int 0, .int 0, .int 0, .null, .null, .null, .int 0, .int 0, .int 0, .int 0, .int 0, .null, .null, .null, .int 0] : List Value).set 0 (.ref q1)).set 3 (.ref q2)).set 4 (.ref q3)).set 9 (.ref q4)).set 10 (.ref q5)).set 11 (.ref q6)).set 17 (.ref q7)).set 18 (.ref q8))))) hq8
  have n8 : q8 ≠ M := (hw_nn (va_up_self _ _ _) hq8).symm
  refine ⟨⟨Nat.le_of_ble_eq_true rfl, Nat.le_of_ble_eq_true rfl⟩, fun q9 w9 hq9 e9 => ?_⟩
  subst e9
  refine ⟨_, ⟨_, hw_un (va_up_self _ _ _) hq9 _, Nat.le_of_ble_eq_true rfl, rfl⟩, ?_⟩
  have k9 := hw_ku (S := M) (x := some (ai_0 g 2 21)) (y := some (.inr (8, (((((((((([.null, .int 0, .int 0, .null, .null, .int 0, .int 0, .int 0, .int 0, .null, .null, .null, .int 0, .int 0, .int 0, .int 0, .int 0, .null, .null, .null, .int 0] : List Value).set 0 (.ref q1)).set 3 (.ref q2)).set 4 (.ref q3)).set 9 (.ref q4)).set 10 (.ref q5)).set 11 (.ref q6)).set 17 (.ref q7)).set 18 (.ref q8)).set 19 (.ref q9))))) hq9
  refine ⟨⟨Nat.le_of_ble_eq_true rfl, Nat.le_of_ble_eq_true rfl⟩, fun i => [q1, q2, q3, q4, q5, q6, q7, q8, q9].getD i 0, hq1, (va_up_self _ _ _), ?_, ?_, ?_, (hw_kt (hw_kt (hw_kt (hw_kt (hw_kt (hw_kt (hw_kt (hw_kt k1 k2) k3) k4) k5) k6) k7) k8) k9)⟩
  · exact ((hw_kt (hw_kt (hw_kt (hw_kt (hw_kt (hw_kt (hw_kt k2 k3) k4) k5) k6) k7) k8) k9) q1 (by rw [va_up_ne _ _ n1, va_up_self]; exact Option.some_ne_none _) n1).trans ((va_up_ne _ _ n1).trans (va_up_self _ _ _))
  · exact ((hw_kt (hw_kt (hw_kt (hw_kt k5 k6) k7) k8) k9) q4 (by rw [va_up_ne _ _ n4, va_up_self]; exact Option.some_ne_none _) n4).trans ((va_up_ne _ _ n4).trans (va_up_self _ _ _))
  · exact (k9 q8 (by rw [va_up_ne _ _ n8, va_up_self]; exact Option.some_ne_none _) n8).trans ((va_up_ne _ _ n8).trans (va_up_self _ _ _))
