def tx_dg (f : Nat → Int32) : Nat → Nat → Int32 → Option Int32
  | 0, _, v => some v
  | d + 1, i, v => if f i < 48 then none else if f i ≤ 57 then tx_dg f d (i + 1) (10 * v + (f i - 48)) else none
def tx_sg (ng : Bool) (v : Int32) : Int32 := if ng = true then -v else v
def tx_num (f : Nat → Int32) (a b : Nat) : Option Int32 := if a < b ∧ f a = 45 then (if b ≤ a + 1 then none else if b - (a + 1) ≤ 4 then (tx_dg f (b - (a + 1)) (a + 1) 0).map (tx_sg true) else none) else (if b ≤ a then none else if b - a ≤ 4 then (tx_dg f (b - a) a 0).map (tx_sg false) else none)
def tx_in (v lo hi : Int32) : Bool := !decide (v < lo) && !decide (hi < v)
set_option maxHeartbeats 4000000 in
set_option maxRecDepth 100000 in
theorem ct_Te_isNumber (l : Launch) (g : hw_G) (w : hw_H) {T TC len a b : Nat} {sk nu : Int32} {f : Nat → Int32} {lo hi : Int32} (hT : w T = some (tx_o TC (nI len) sk (nI a) (nI b) nu)) (hC : w TC = some (.inl (g.2.1 1, 160, .inl f))) (hl : len ≤ 160) (hab : a ≤ b) (hbl : b ≤ len) : hw_Mi l g ym_Te_isNumber mw_Te_isNumber (hw_R 1 0 0) [.ref T, .int lo, .int hi] w (fun r w' => (tx_num f a b = none → r = 0 ∧ w' = w) ∧ (∀ v, tx_num f a b = some v → r = hw_z (tx_in v lo hi) ∧ w' = va_up w T (some (tx_o TC (nI len) sk (nI a) (nI b) v)))) := by
  refine hw_enteri (r := 4) rfl rfl (by simp [Value.category]) (Nat.le_of_ble_eq_true rfl) ?_
  intro p e s m args below meth c A X hr hlk hnm
  refine sg_Te_isNumber_0 X (fun _ _ _ _ _ _ h => h) (hw_rtz X hr hlk) ?_
  unfold vc_Te_isNumber_0
  have no : tx_num f a b = none → ((0 ≤ 0 ∧ 0 ≤ 0) ∧ hw_b (0 : Int32) ∧ (tx_num f a b = none → (0 : Int32) = 0 ∧ w = w) ∧ (∀ v, tx_num f a b = some v → (0 : Int32) = hw_z (tx_in v lo hi) ∧ w = va_up w T (some (tx_o TC (nI len) sk (nI a) (nI b) v)))) := fun hz => ⟨hw_00, Or.inl rfl, fun _ => ⟨rfl, rfl⟩, fun v hv => (by rw [hz] at hv; cases hv)⟩
  have yes : ∀ (v r : Int32), tx_num f a b = some v → hw_b r → r = hw_z (tx_in v lo hi) → ((0 ≤ 0 ∧ 0 ≤ 0) ∧ hw_b r ∧ (tx_num f a b = none → r = 0 ∧ va_up w T (some (tx_o TC (nI len) sk (nI a) (nI b) v)) = w) ∧ (∀ v', tx_num f a b = some v' → r = hw_z (tx_in v' lo hi) ∧ va_up w T (some (tx_o TC (nI len) sk (nI a) (nI b) v)) = va_up w T (some (tx_o TC (nI len) sk (nI a) (nI b) v')))) := fun v r hv hr2 e2 => ⟨hw_00, hr2, fun hz => (by rw [hz] at hv; cases hv), fun v' hv' => (by rw [hv] at hv'; cases hv'; exact ⟨e2, rfl⟩)⟩
  have L1 : ∀ (ng : Bool) (d i : Nat) (acc x4 : Int32), i + d = b → tx_num f a b = (tx_dg f d i acc).map (tx_sg ng) → hw_Ji p l e (hw_R 1 0 0) s m args below meth c 7 g A (fun r w' => (tx_num f a b = none → r = 0 ∧ w' = w) ∧ (∀ v, tx_num f a b = some v → r = hw_z (tx_in v lo hi) ∧ w' = va_up w T (some (tx_o TC (nI len) sk (nI a) (nI b) v)))) 0 0 79 [some (.ref T), some (.int lo), some (.int hi), some (.int (hw_z ng)), some (.int x4), some (.int acc), some (.int (nI i))] [] w := by
    intro ng d
    induction d with
    | zero =>
      intro i acc x4 hi2 hn
      have hib : i = b := by omega
      subst hib
      have hn : tx_num f a i = some (tx_sg ng acc) := hn
      refine sg_Te_isNumber_79 X (fun _ _ _ _ _ _ h => h) (hw_rtz X hr hlk) ?_
      unfold vc_Te_isNumber_79
      have fin : ∀ v, tx_num f a i = some v → (∃ x_3 : Int32, hw_g (va_up w T (some (tx_o TC (nI len) sk (nI a) (nI i) v))) T 0 5 (.int x_3) ∧ (((x_3 < lo) → ((0 ≤ 0 ∧ 0 ≤ 0) ∧ hw_b 0 ∧ (fun r w' => (tx_num f a i = none → r = 0 ∧ w' = w) ∧ (∀ v, tx_num f a i = some v → r = hw_z (tx_in v lo hi) ∧ w' = va_up w T (some (tx_o TC (nI len) sk (nI a) (nI i) v)))) 0 (va_up w T (some (tx_o TC (nI len) sk (nI a) (nI i) v))))) ∧ ((¬ x_3 < lo) → (∃ x_4 : Int32, hw_g (va_up w T (some (tx_o TC (nI len) sk (nI a) (nI i) v))) T 0 5 (.int x_4) ∧ (((hi < x_4) → ((0 ≤ 0 ∧ 0 ≤ 0) ∧ hw_b 0 ∧ (fun r w' => (tx_num f a i = none → r = 0 ∧ w' = w) ∧ (∀ v, tx_num f a i = some v → r = hw_z (tx_in v lo hi) ∧ w' = va_up w T (some (tx_o TC (nI len) sk (nI a) (nI i) v)))) 0 (va_up w T (some (tx_o TC (nI len) sk (nI a) (nI i) v))))) ∧ ((¬ hi < x_4) → ((0 ≤ 0 ∧ 0 ≤ 0) ∧ hw_b 1 ∧ (fun r w' => (tx_num f a i = none → r = 0 ∧ w' = w) ∧ (∀ v, tx_num f a i = some v → r = hw_z (tx_in v lo hi) ∧ w' = va_up w T (some (tx_o TC (nI len) sk (nI a) (nI i) v)))) 1 (va_up w T (some (tx_o TC (nI len) sk (nI a) (nI i) v)))))))))) := by
        intro v hv
        refine ⟨_, ⟨_, (va_up_self _ _ _), rfl⟩, fun h => yes v 0 hv (Or.inl rfl) (by simp [tx_in, h, hw_z]), fun h => ⟨_, ⟨_, (va_up_self _ _ _), rfl⟩, fun h2 => yes v 0 hv (Or.inl rfl) (by simp [tx_in, h2, hw_z]), fun h2 => yes v 1 hv (Or.inr rfl) (by simp [tx_in, h, h2, hw_z])⟩⟩
      refine ⟨_, ⟨_, hT, rfl⟩, fun _ => ⟨fun hz => ⟨_, ⟨_, hT, Nat.le_of_ble_eq_true rfl, rfl⟩, ?_⟩, fun hz => ⟨_, ⟨_, hT, Nat.le_of_ble_eq_true rfl, rfl⟩, ?_⟩⟩, fun h => absurd (Int32.le_refl _) h⟩
      · rw [hw_z_eq] at hz
        subst hz
        exact fin acc hn
      · rw [hw_z_ne] at hz
        subst hz
        exact fin (-acc) hn
    | succ d ih =>
      intro i acc x4 hi2 hn
      refine sg_Te_isNumber_79 X (fun _ _ _ _ _ _ h => h) (hw_rtz X hr hlk) ?_
      unfold vc_Te_isNumber_79
      have hin : vp_in (nI i) 160 := vp_in_nI (by omega) (by omega)
      unfold tx_dg at hn
      refine ⟨_, ⟨_, hT, rfl⟩, fun h => absurd h (nI_ge (by omega) (by omega)), fun _ => ⟨_, ⟨_, hT, rfl⟩, _, ⟨_, _, hC, hin, rfl⟩, fun h => ?_, fun h => ⟨_, ⟨_, hT, rfl⟩, _, ⟨_, _, hC, hin, rfl⟩, fun h2 => ⟨_, ⟨_, hT, rfl⟩, _, ⟨_, _, hC, hin, rfl⟩, fun y hy => ?_⟩, fun h2 => ?_⟩⟩⟩
      · rw [nI_clamp (by omega)] at h
        rw [if_pos h] at hn
        exact no hn
      · rw [nI_clamp (by omega)] at h h2 hy
        rw [if_neg h, if_pos h2] at hn
        subst hy
        rw [nI_1]
        exact ih (i + 1) _ _ (by omega) hn
      · rw [nI_clamp (by omega)] at h h2
        rw [if_neg h, if_neg h2] at hn
        exact no hn
  have K0 : ¬ (a < b ∧ f a = 45) → hw_Ji p l e (hw_R 1 0 0) s m args below meth c 7 g A (fun r w' => (tx_num f a b = none → r = 0 ∧ w' = w) ∧ (∀ v, tx_num f a b = some v → r = hw_z (tx_in v lo hi) ∧ w' = va_up w T (some (tx_o TC (nI len) sk (nI a) (nI b) v)))) 0 0 29 [some (.ref T), some (.int lo), some (.int hi), none, none, none, none] [] w := by
    intro hng
    have hn : tx_num f a b = (if b ≤ a then none else if b - a ≤ 4 then (tx_dg f (b - a) a 0).map (tx_sg false) else none) := by unfold tx_num; rw [if_neg hng]
    refine sg_Te_isNumber_29 X (fun _ _ _ _ _ _ h => h) (hw_rtz X hr hlk) ?_
    unfold vc_Te_isNumber_29
    refine ⟨_, ⟨_, hT, rfl⟩, _, ⟨_, hT, rfl⟩, fun h => ?_, fun h => ⟨_, ⟨_, hT, rfl⟩, fun h2 => ?_, fun h2 => ?_⟩⟩
    · rw [nI_leI (by omega) (by omega)] at h
      rw [if_pos h] at hn
      exact no hn
    · rw [nI_leI (by omega) (by omega)] at h
      have h2' : nI (b - a) ≤ nI 4 := by rw [← pk_sub hab]; exact h2
      rw [nI_leI (by omega) (by omega)] at h2'
      rw [if_neg h, if_pos h2'] at hn
      exact L1 false (b - a) a 0 (nI a) (by omega) hn
    · rw [nI_leI (by omega) (by omega)] at h
      have h2' : ¬ nI (b - a) ≤ nI 4 := by rw [← pk_sub hab]; exact h2
      rw [nI_leI (by omega) (by omega)] at h2'
      rw [if_neg h, if_neg h2'] at hn
      exact no hn
  refine ⟨_, ⟨_, hT, rfl⟩, _, ⟨_, hT, rfl⟩, fun h => K0 ?_, fun h => ⟨_, ⟨_, hT, rfl⟩, _, ⟨_, hT, rfl⟩, _, ⟨_, _, hC, vp_in_nI (by rw [nI_leI (by omega) (by omega)] at h; omega) (by omega), rfl⟩, fun h2 => K0 ?_, fun h2 => ⟨_, ⟨_, hT, rfl⟩, fun y hy => ⟨_, ⟨_, hT, rfl⟩, fun h3 => ?_, fun h3 => ⟨_, ⟨_, hT, rfl⟩, fun h4 => ?_, fun h4 => ?_⟩⟩⟩⟩⟩
  · rw [nI_leI (by omega) (by omega)] at h
    omega
  · rw [nI_clamp (by omega)] at h2
    exact fun z => h2 z.2
  all_goals
    rw [nI_leI (by omega) (by omega)] at h
    rw [nI_clamp (by omega)] at h2
    rw [nI_1] at hy
    subst hy
    rw [nI_leI (by omega) (by omega)] at h3
    have hn : tx_num f a b = (if b ≤ a + 1 then none else if b - (a + 1) ≤ 4 then (tx_dg f (b - (a + 1)) (a + 1) 0).map (tx_sg true) else none) := by unfold tx_num; rw [if_pos ⟨by omega, h2⟩]
  · rw [if_pos h3] at hn
    exact no hn
  · have h4' : nI (b - (a + 1)) ≤ nI 4 := by rw [← pk_sub (show a + 1 ≤ b by omega)]; exact h4
    rw [nI_leI (by omega) (by omega)] at h4'
    rw [if_neg h3, if_pos h4'] at hn
    exact L1 true (b - (a + 1)) (a + 1) 0 _ (by omega) hn
  · have h4' : ¬ nI (b - (a + 1)) ≤ nI 4 := by rw [← pk_sub (show a + 1 ≤ b by omega)]; exact h4
    rw [nI_leI (by omega) (by omega)] at h4'
    rw [if_neg h3, if_neg h4'] at hn
    exact no hn
set_option maxHeartbeats 4000000 in
set_option maxRecDepth 100000 in
theorem ct_Te_passesNumber (l : Launch) (g : hw_G) (w : hw_H) {T TC len a b : Nat} {sk nu : Int32} {f : Nat → Int32} {lo hi : Int32} (hT : w T = some (tx_o TC (nI len) sk (nI a) (nI b) nu)) (hC : w TC = some (.inl (g.2.1 1, 160, .inl f))) (hl : len ≤ 160) (hab : a ≤ b) (hbl : b ≤ len) : hw_Mi l g ym_Te_passesNumber mw_Te_passesNumber (hw_R 8 0 0) [.ref T, .int lo, .int hi] w (fun r w' => (tx_num f a b = none → r = 0 ∧ w' = w) ∧ (∀ v, tx_num f a b = some v → r = hw_z (tx_in v lo hi) ∧ w' = (if tx_in v lo hi = true then va_up w T (some (tx_o TC (nI len) sk (nI (tx_adv f len sk b).1) (nI (tx_adv f len sk b).2) v)) else va_up w T (some (tx_o TC (nI len) sk (nI a) (nI b) v))))) := by
  refine hw_enteri (r := 0) rfl rfl (by simp [Value.category]) (Nat.le_of_ble_eq_true rfl) ?_
  intro p e s m args below meth c A X hr hlk hnm
  refine sg_Te_passesNumber_0 X (fun _ _ _ _ _ _ h => h) (hw_rtz X hr hlk) ?_
  unfold vc_Te_passesNumber_0
  have hne : TC ≠ T := by rintro rfl; rw [hC] at hT; cases hT
  refine ⟨hw_o_of hT rfl rfl, hw_ci_0 (by decide) (by decide) (ct_Te_isNumber (lo := lo) (hi := hi) l g w hT hC hl hab hbl) (Nat.zero_le _) (Nat.zero_le _) ?_⟩
  rintro r w1 ⟨hno, hyes⟩
  cases hn : tx_num f a b with
  | none =>
    obtain ⟨rfl, rfl⟩ := hno hn
    exact ⟨fun h => absurd rfl h, fun _ => ⟨hw_00, Or.inl rfl, fun _ => ⟨rfl, rfl⟩, fun v hv => by cases hv⟩⟩
  | some v =>
    obtain ⟨rfl, rfl⟩ := hyes v hn
    refine ⟨fun h => ⟨hw_o_of (va_up_self _ _ _) rfl rfl, hw_cv_0 (by decide) (by decide) (ct_Te_advance (TC := TC) (len := len) (pe := b) (sk := sk) (st := nI a) (nu := v) (f := f) l g _ (va_up_self _ _ _) (by rw [va_up_ne _ _ hne]; exact hC) hl hbl) (Nat.zero_le _) (Nat.zero_le _) ?_⟩, fun h => ?_⟩
    · rintro w2 rfl
      rw [hw_z_ne] at h
      refine ⟨hw_00, Or.inr rfl, fun hv => (by cases hv), fun v' hv => ?_⟩
      cases hv
      exact ⟨hw_z_t h, by rw [if_pos h, bx_uu]⟩
    · rw [hw_z_eq] at h
      refine ⟨hw_00, Or.inl rfl, fun hv => (by cases hv), fun v' hv => ?_⟩
      cases hv
      exact ⟨hw_z_f h, by rw [if_neg (by simp [h])]⟩
