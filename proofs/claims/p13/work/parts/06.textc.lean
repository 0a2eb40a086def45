/-! Text: its small methods, append, clear. -/
def hw_z (b : Bool) : Int32 := if b = true then 1 else 0
theorem hw_z_b (b : Bool) : hw_b (hw_z b) := by
  cases b
  · exact Or.inl rfl
  · exact Or.inr rfl
theorem hw_z_ne (b : Bool) : (¬ hw_z b = 0) ↔ b = true := by cases b <;> decide
theorem hw_z_eq (b : Bool) : (hw_z b = 0) ↔ b = false := by cases b <;> decide
def tx_bl (c : Int32) : Bool := decide (c = 32) || decide (c = 10)
def tx_ch (c : Int32) : Bool := decide (c = 10) || (!decide (c < 32) && !decide (126 < c))
def tx_by (x : Int32) (i : Nat) : Int32 := (x >>> (((8 : Int32) * nI i) &&& 31)) &&& 255
abbrev tx_o (TC : Nat) (len sk st en nu : Int32) : va_E := .inr (0, [.ref TC, .int len, .int sk, .int st, .int en, .int nu])
theorem hw_00 : 0 ≤ 0 ∧ 0 ≤ 0 := ⟨Nat.le_refl _, Nat.le_refl _⟩
set_option maxHeartbeats 4000000 in
set_option maxRecDepth 100000 in
theorem ct_Te_byteOf (l : Launch) (g : hw_G) (w : hw_H) (x i : Int32) : hw_Mi l g ym_Te_byteOf mw_Te_byteOf (hw_R 1 0 0) [.int x, .int i] w (fun r w' => r = (x >>> ((8 * i) &&& 31)) &&& 255 ∧ w' = w) := by
  refine hw_enteri (r := 0) rfl rfl (by simp [Value.category]) (Nat.le_of_ble_eq_true rfl) ?_
  intro p e s m args below meth c A X hr hlk hnm
  refine sg_Te_byteOf_0 X (fun _ _ _ _ _ _ h => h) (hw_rti X hr hlk) ?_
  unfold vc_Te_byteOf_0
  exact ⟨hw_00, rfl, rfl⟩
set_option maxHeartbeats 4000000 in
set_option maxRecDepth 100000 in
theorem ct_Te_isCharacter (l : Launch) (g : hw_G) (w : hw_H) (x : Int32) : hw_Mi l g ym_Te_isCharacter mw_Te_isCharacter (hw_R 1 0 0) [.int x] w (fun r w' => r = hw_z (tx_ch x) ∧ w' = w) := by
  refine hw_enteri (r := 0) rfl rfl (by simp [Value.category]) (Nat.le_of_ble_eq_true rfl) ?_
  intro p e s m args below meth c A X hr hlk hnm
  refine sg_Te_isCharacter_0 X (fun _ _ _ _ _ _ h => h) (hw_rtz X hr hlk) ?_
  unfold vc_Te_isCharacter_0
  refine ⟨fun h => ⟨hw_00, Or.inr rfl, by simp [tx_ch, hw_z, h], rfl⟩, fun h => ⟨fun h2 => ⟨hw_00, Or.inl rfl, by simp [tx_ch, hw_z, h, h2], rfl⟩, fun h2 => ⟨fun h3 => ⟨hw_00, Or.inl rfl, by simp [tx_ch, hw_z, h, h3], rfl⟩, fun h3 => ⟨hw_00, Or.inr rfl, by simp [tx_ch, hw_z, h, h2, h3], rfl⟩⟩⟩⟩
set_option maxHeartbeats 4000000 in
set_option maxRecDepth 100000 in
theorem ct_Te_isBlank (l : Launch) (g : hw_G) (w : hw_H) (x : Int32) : hw_Mi l g ym_Te_isBlank mw_Te_isBlank (hw_R 1 0 0) [.int x] w (fun r w' => r = hw_z (tx_bl x) ∧ w' = w) := by
  refine hw_enteri (r := 0) rfl rfl (by simp [Value.category]) (Nat.le_of_ble_eq_true rfl) ?_
  intro p e s m args below meth c A X hr hlk hnm
  refine sg_Te_isBlank_0 X (fun _ _ _ _ _ _ h => h) (hw_rtz X hr hlk) ?_
  unfold vc_Te_isBlank_0
  refine ⟨fun h => ⟨hw_00, Or.inr rfl, by simp [tx_bl, hw_z, h], rfl⟩, fun h => ⟨fun h2 => ⟨hw_00, Or.inl rfl, by simp [tx_bl, hw_z, h, h2], rfl⟩, fun h2 => ⟨hw_00, Or.inr rfl, by simp [tx_bl, hw_z, h2], rfl⟩⟩⟩
set_option maxHeartbeats 4000000 in
set_option maxRecDepth 100000 in
theorem ct_Te_clear (l : Launch) (g : hw_G) (w : hw_H) {T TC : Nat} {len sk st en nu : Int32} (hT : w T = some (tx_o TC len sk st en nu)) : hw_Mv l g ym_Te_clear mw_Te_clear (hw_R 1 0 0) [.ref T] w (fun w' => w' = va_up w T (some (tx_o TC 0 sk st en nu))) := by
  refine hw_enterv (r := 0) rfl rfl (by simp [Value.category]) (Nat.le_of_ble_eq_true rfl) ?_
  intro p e s m args below meth c A X hr hlk hnm
  refine sg_Te_clear_0 X (fun _ _ _ _ _ _ h => h) (hw_rtv X hr hlk) ?_
  unfold vc_Te_clear_0
  exact ⟨_, ⟨_, hT, Nat.le_of_ble_eq_true rfl, rfl⟩, hw_00, rfl⟩
