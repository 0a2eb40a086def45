def tx_all (x : Int32) : Nat → Bool
  | 0 => true
  | k + 1 => tx_ch (tx_by x k) && tx_all x k
def tx_ok (len : Nat) (x n : Int32) : Bool := !decide (n < 1) && (!decide (4 < n) && (!decide (160 < nI len + n) && tx_all x n.toNatClampNeg))
def tx_put (x : Int32) : Nat → (Nat → Int32) → Nat → (Nat → Int32)
  | 0, f, _ => f
  | k + 1, f, l => tx_put x k (upd f l (tx_by x k)) (l + 1)
def tx_m (c : Nat) : Int32 := nI c - 1
theorem tx_m0 : tx_m 0 < 0 := by decide
theorem tx_ms (c : Nat) : tx_m (c + 1) = nI c := nI_pred c
theorem tx_mp (c : Nat) : nI c + (-1) = tx_m c := by
  show nI c + (-1) = nI c - 1
  rw [Int32.sub_eq_add_neg]
theorem tx_by_ch (x : Int32) (k : Nat) : vp_nar .char (((tx_by x k).toUInt32 % 65536).toInt32) = tx_by x k := by
  rw [pk_vc]
  exact sc_c2 _
theorem tx_n4 {n : Int32} (h1 : ¬ n < 1) (h4 : ¬ 4 < n) : ∃ j : Nat, 1 ≤ j ∧ j ≤ 4 ∧ n = nI j ∧ n.toNatClampNeg = j := by
  have h0 : ¬ n < 0 := by
    intro z
    apply h1
    rw [Int32.lt_iff_toInt_lt] at z ⊢
    have e1 : (1 : Int32).toInt = 1 := by decide
    have e0 : (0 : Int32).toInt = 0 := by decide
    omega
  obtain ⟨j, hj, rfl⟩ := nI_of h0
  have h2 : 1 ≤ j := by
    rcases Nat.lt_or_ge j 1 with z | z
    · exact absurd (show nI j < 1 from nI_lt (a := j) (b := 1) z (by omega)) h1
    · exact z
  have h3 : j ≤ 4 := by
    rcases Nat.lt_or_ge 4 j with z | z
    · exact absurd (show (4 : Int32) < nI j from nI_lt (a := 4) (b := j) z hj) h4
    · exact z
  exact ⟨j, h2, h3, rfl, nI_clamp hj⟩
theorem tx_160 {len j : Nat} (hl : len ≤ 160) (hj : j ≤ 4) : (160 : Int32) < nI len + nI j ↔ 160 < len + j := by
  rw [nI_add]
  exact nI_ltI (a := 160) (by omega) (by omega)
theorem tx_le160 {len j : Nat} (hl : len ≤ 160) (hj : j ≤ 4) : nI len + nI j ≤ (160 : Int32) ↔ len + j ≤ 160 := by
  rw [nI_add]
  exact nI_leI (b := 160) (by omega) (by omega)
theorem tx_no1 {len : Nat} {x n : Int32} (h : n < 1) : tx_ok len x n = false := by simp [tx_ok, h]
theorem tx_no4 {len : Nat} {x n : Int32} (h : 4 < n) : tx_ok len x n = false := by simp [tx_ok, h]
theorem tx_no160 {len j : Nat} {x : Int32} (h : 160 < nI len + nI j) : tx_ok len x (nI j) = false := by simp [tx_ok, h]
theorem tx_yes {len j : Nat} {x : Int32} (h1 : ¬ nI j < 1) (h4 : ¬ 4 < nI j) (h : ¬ 160 < nI len + nI j) (hj : (nI j).toNatClampNeg = j) : tx_ok len x (nI j) = tx_all x j := by simp [tx_ok, h1, h4, h, hj]
theorem hw_z_t {b : Bool} (h : b = true) : (1 : Int32) = hw_z b := by rw [h]; rfl
theorem hw_z_f {b : Bool} (h : b = false) : (0 : Int32) = hw_z b := by rw [h]; rfl
set_option maxHeartbeats 4000000 in
set_option maxRecDepth 100000 in
theorem ct_Te_append (l : Launch) (g : hw_G) (w : hw_H) {T TC len : Nat} {sk st en nu x n : Int32} {f : Nat → Int32} (hT : w T = some (tx_o TC (nI len) sk st en nu)) (hC : w TC = some (.inl (g.2.1 1, 160, .inl f))) (hl : len ≤ 160) : hw_Mi l g ym_Te_append mw_Te_append (hw_R 2 0 0) [.ref T, .int x, .int n] w (fun r w' => r = hw_z (tx_ok len x n) ∧ (tx_ok len x n = false → w' = w) ∧ (tx_ok len x n = true → w' T = some (tx_o TC (nI (len + n.toNatClampNeg)) sk st en nu) ∧ w' TC = some (.inl (g.2.1 1, 160, .inl (tx_put x n.toNatClampNeg f len))) ∧ ∀ a, a ≠ T → a ≠ TC → w' a = w a)) := by
  refine hw_enteri (r := 1) rfl rfl (by simp [Value.category]) (Nat.le_of_ble_eq_true rfl) ?_
  intro p e s m args below meth c A X hr hlk hnm
  refine sg_Te_append_0 X (fun _ _ _ _ _ _ h => h) (hw_rtz X hr hlk) ?_
  unfold vc_Te_append_0
  have hne : T ≠ TC := by rintro rfl; rw [hT] at hC; cases hC
  refine ⟨fun h => ⟨hw_00, Or.inl rfl, hw_z_f (tx_no1 h), fun _ => rfl, fun z => by rw [tx_no1 h] at z; cases z⟩, fun h1 => ⟨fun h => ⟨hw_00, Or.inl rfl, hw_z_f (tx_no4 h), fun _ => rfl, fun z => by rw [tx_no4 h] at z; cases z⟩, fun h4 => ?_⟩⟩
  obtain ⟨j, j1, j4, rfl, hcl⟩ := tx_n4 h1 h4
  refine ⟨_, ⟨_, hT, rfl⟩, fun h => ?_, fun h => ?_⟩
  rotate_left
  · have h9 : 160 < nI len + nI j := (tx_160 hl j4).mpr (by have := mt (tx_le160 hl j4).mpr h; omega)
    exact ⟨hw_00, Or.inl rfl, hw_z_f (tx_no160 h9), fun _ => rfl, fun z => by rw [tx_no160 h9] at z; cases z⟩
  have hlj := (tx_le160 hl j4).mp h
  have hyes : ∀ y, tx_ok len y (nI j) = tx_all y j := fun y => tx_yes h1 h4 (fun z => by have := (tx_160 hl j4).mp z; omega) hcl
  have L2 : ∀ (k l1 : Nat) (f1 : Nat → Int32) (w1 : hw_H), k ≤ 4 → l1 + k = len + j → tx_all x j = true → tx_put x k f1 l1 = tx_put x j f len → w1 T = some (tx_o TC (nI l1) sk st en nu) → w1 TC = some (.inl (g.2.1 1, 160, .inl f1)) → (∀ a, a ≠ T → a ≠ TC → w1 a = w a) → hw_Ji p l e (hw_R 2 0 0) s m args below meth c 4 g A (fun r w' => r = hw_z (tx_ok len x (nI j)) ∧ (tx_ok len x (nI j) = false → w' = w) ∧ (tx_ok len x (nI j) = true → w' T = some (tx_o TC (nI (len + (nI j).toNatClampNeg)) sk st en nu) ∧ w' TC = some (.inl (g.2.1 1, 160, .inl (tx_put x (nI j).toNatClampNeg f len))) ∧ ∀ a, a ≠ T → a ≠ TC → w' a = w a)) 0 0 55 [some (.ref T), some (.int x), some (.int (nI j)), some (.int (tx_m k))] [] w1 := by
    intro k
    induction k with
    | zero =>
      intro l1 f1 w1 _ hs hall hput hT1 hC1 hoff
      refine sg_Te_append_55 X (fun _ _ _ _ _ _ h => h) (hw_rtz X hr hlk) ?_
      unfold vc_Te_append_55
      refine ⟨fun _ => ⟨hw_00, Or.inr rfl, hw_z_t (by rw [hyes]; exact hall), fun z => (by rw [hyes, hall] at z; cases z), fun _ => ⟨?_, ?_, hoff⟩⟩, fun h9 => absurd tx_m0 h9⟩
      · rw [hcl, ← hs]; exact hT1
      · rw [hcl, ← hput]; exact hC1
    | succ k ih =>
      intro l1 f1 w1 hk hs hall hput hT1 hC1 hoff
      refine sg_Te_append_55 X (fun _ _ _ _ _ _ h => h) (hw_rtz X hr hlk) ?_
      unfold vc_Te_append_55
      rw [tx_ms]
      refine ⟨fun h9 => absurd h9 (nI_pos (by omega)), fun _ => ⟨_, ⟨_, hT1, rfl⟩, _, ⟨_, hT1, rfl⟩, hw_ci_0 (by decide) (by decide) (ct_Te_byteOf l g w1 x (nI k)) (Nat.zero_le _) (Nat.zero_le _) ?_⟩⟩
      rintro r w2 ⟨rfl, rfl⟩
      have hb : (x >>> ((8 * nI k) &&& 31)) &&& 255 = tx_by x k := rfl
      rw [hb, tx_by_ch]
      refine ⟨_, ⟨_, _, hC1, vp_in_nI (by omega) (by omega), rfl⟩, _, ⟨_, by rw [va_up_ne _ _ hne]; exact hT1, rfl⟩, _, ⟨_, by rw [va_up_ne _ _ hne]; exact hT1, Nat.le_of_ble_eq_true rfl, rfl⟩, ?_⟩
      rw [tx_mp]
      refine ih (l1 + 1) (upd f1 l1 (tx_by x k)) _ (by omega) (by omega) hall hput ?_ ?_ ?_
      · rw [← nI_1]; exact (va_up_self _ _ _)
      · rw [va_up_ne _ _ hne.symm, nI_clamp (by omega)]; exact (va_up_self _ _ _)
      · intro a ha hb2
        rw [va_up_ne _ _ ha, va_up_ne _ _ hb2]
        exact hoff a ha hb2
  have L1 : ∀ (k : Nat), k ≤ 4 → tx_all x j = tx_all x k → hw_Ji p l e (hw_R 2 0 0) s m args below meth c 4 g A (fun r w' => r = hw_z (tx_ok len x (nI j)) ∧ (tx_ok len x (nI j) = false → w' = w) ∧ (tx_ok len x (nI j) = true → w' T = some (tx_o TC (nI (len + (nI j).toNatClampNeg)) sk st en nu) ∧ w' TC = some (.inl (g.2.1 1, 160, .inl (tx_put x (nI j).toNatClampNeg f len))) ∧ ∀ a, a ≠ T → a ≠ TC → w' a = w a)) 0 0 28 [some (.ref T), some (.int x), some (.int (nI j)), some (.int (tx_m k))] [] w := by
    intro k
    induction k with
    | zero =>
      intro _ hall
      refine sg_Te_append_28 X (fun _ _ _ _ _ _ h => h) (hw_rtz X hr hlk) ?_
      unfold vc_Te_append_28
      refine ⟨fun _ y hy => ?_, fun h9 => absurd tx_m0 h9⟩
      subst hy
      exact L2 j len f w j4 rfl hall rfl hT hC (fun _ _ _ => rfl)
    | succ k ih =>
      intro hk hall
      refine sg_Te_append_28 X (fun _ _ _ _ _ _ h => h) (hw_rtz X hr hlk) ?_
      unfold vc_Te_append_28
      rw [tx_ms]
      refine ⟨fun h9 => absurd h9 (nI_pos (by omega)), fun _ => hw_ci_0 (by decide) (by decide) (ct_Te_byteOf l g w x (nI k)) (Nat.zero_le _) (Nat.zero_le _) ?_⟩
      rintro r w2 ⟨rfl, rfl⟩
      refine hw_ci_0 (by decide) (by decide) (ct_Te_isCharacter l g w2 _) (Nat.zero_le _) (Nat.zero_le _) ?_
      rintro r w3 ⟨rfl, rfl⟩
      have hb : (x >>> ((8 * nI k) &&& 31)) &&& 255 = tx_by x k := rfl
      rw [hb]
      refine ⟨fun h9 => ?_, fun h9 => ?_⟩
      · have h8 := (hw_z_ne _).mp h9
        rw [tx_mp]
        exact ih (by omega) (by rw [hall]; simp [tx_all, h8])
      · have h8 := (hw_z_eq _).mp h9
        have h7 : tx_ok len x (nI j) = false := by rw [hyes, hall]; simp [tx_all, h8]
        exact ⟨hw_00, Or.inl rfl, hw_z_f h7, fun _ => rfl, fun z => by rw [h7] at z; cases z⟩
  intro y hy
  subst hy
  exact L1 j j4 rfl
set_option maxHeartbeats 4000000 in
set_option maxRecDepth 100000 in
theorem ct_Co_type (l : Launch) (g : hw_G) (w : hw_H) {C T TC P0 S F len : Nat} {sk st en nu x n : Int32} {f : Nat → Int32} (hO : w C = some (.inr (4, [.ref T, .ref P0, .ref S, .ref F]))) (hT : w T = some (tx_o TC (nI len) sk st en nu)) (hC : w TC = some (.inl (g.2.1 1, 160, .inl f))) (hl : len ≤ 160) : hw_Mi l g ym_Co_type mw_Co_type (hw_R 3 0 0) [.ref C, .int x, .int n] w (fun r w' => r = hw_z (tx_ok len x n) ∧ (tx_ok len x n = false → w' = w) ∧ (tx_ok len x n = true → w' T = some (tx_o TC (nI (len + n.toNatClampNeg)) sk st en nu) ∧ w' TC = some (.inl (g.2.1 1, 160, .inl (tx_put x n.toNatClampNeg f len))) ∧ ∀ a, a ≠ T → a ≠ TC → w' a = w a)) := by
  refine hw_enteri (r := 0) rfl rfl (by simp [Value.category]) (Nat.le_of_ble_eq_true rfl) ?_
  intro p e s m args below meth c A X hr hlk hnm
  refine sg_Co_type_0 X (fun _ _ _ _ _ _ h => h) (hw_rtz X hr hlk) ?_
  unfold vc_Co_type_0
  refine ⟨_, ⟨_, hO, rfl⟩, hw_o_of hT rfl rfl, hw_ci_0 (by decide) (by decide) (ct_Te_append (n := n) (x := x) l g w hT hC hl) (Nat.zero_le _) (Nat.zero_le _) ?_⟩
  rintro r w' hp
  exact ⟨hw_00, by rw [hp.1]; exact hw_z_b _, hp⟩
set_option maxHeartbeats 4000000 in
set_option maxRecDepth 100000 in
theorem ct_Mo_in (l : Launch) (g : hw_G) (w : hw_H) {v lo hi : Int32}  : hw_Mi l g ym_Mo_in mw_Mo_in (hw_R 1 0 0) [.int v, .int lo, .int hi] w (fun r w' => r = hw_z (!decide (v < lo) && !decide (hi < v)) ∧ w' = w) := by
  refine hw_enteri (r := 0) rfl rfl (by simp [Value.category]) (Nat.le_of_ble_eq_true rfl) ?_
  intro p e s m args below meth c A X hr hlk hnm
  refine sg_Mo_in_0 X (fun _ _ _ _ _ _ h => h) (hw_rtz X hr hlk) ?_
  unfold vc_Mo_in_0
  refine ⟨fun h => ⟨hw_00, Or.inl rfl, by simp [hw_z, h], rfl⟩, fun h => ⟨fun h2 => ⟨hw_00, Or.inl rfl, by simp [hw_z, h2], rfl⟩, fun h2 => ⟨hw_00, Or.inr rfl, by simp [hw_z, h, h2], rfl⟩⟩⟩
