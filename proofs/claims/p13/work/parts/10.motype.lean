abbrev mo_g (m : Nat → Nat) (ty wo ne si fa va cl li hi em hn pl : Int32) : va_E := .inr (8, [.ref (m 0), .int ty, .int wo, .ref (m 1), .ref (m 2), .int ne, .int si, .int fa, .int va, .ref (m 3), .ref (m 4), .ref (m 5), .int cl, .int li, .int hi, .int em, .int hn, .ref (m 6), .ref (m 7), .ref (m 8), .int pl])
abbrev mo_o (m : Nat → Nat) (ty wo ne si fa hn : Int32) : va_E := mo_g m ty wo ne si fa 0 0 0 0 0 hn 0
theorem tx_all_le {x : Int32} {j : Nat} (h : tx_all x j = true) : ∀ k, k ≤ j → tx_all x k = true := by
  intro k hk
  induction j with
  | zero => rw [show k = 0 by omega]; rfl
  | succ j ih =>
    rcases Nat.lt_or_ge k (j + 1) with z | z
    · simp [tx_all] at h
      exact ih h.2 (by omega)
    · rw [show k = j + 1 by omega]; exact h
theorem tx_all_f {x : Int32} {j k : Nat} (h : tx_all x k = false) (hk : k ≤ j) : tx_all x j = false := by
  cases h2 : tx_all x j with
  | false => rfl
  | true => rw [tx_all_le h2 k hk] at h; cases h
set_option maxHeartbeats 4000000 in
set_option maxRecDepth 100000 in
theorem ct_Mo_type (l : Launch) (g : hw_G) (w : hw_H) {M len : Nat} {m0 : Nat → Nat} {wo ne si fa va cl li hi em hn pl x n : Int32} {f : Nat → Int32} (hM : w M = some (mo_g m0 (nI len) wo ne si fa va cl li hi em hn pl)) (hC : w (m0 0) = some (.inl (g.2.1 0, 160, .inl f))) (hl : len ≤ 160) : hw_Mi l g ym_Mo_type mw_Mo_type (hw_R 2 0 0) [.ref M, .int x, .int n] w (fun r w' => r = hw_z (tx_ok len x n) ∧ (tx_ok len x n = false → w' = w) ∧ (tx_ok len x n = true → w' M = some (mo_g m0 (nI (len + n.toNatClampNeg)) wo ne si fa va cl li hi em hn pl) ∧ w' (m0 0) = some (.inl (g.2.1 0, 160, .inl (tx_put x n.toNatClampNeg f len))) ∧ ∀ a, a ≠ M → a ≠ m0 0 → w' a = w a)) := by
  refine hw_enteri (r := 3) rfl rfl (by simp [Value.category]) (Nat.le_of_ble_eq_true rfl) ?_
  intro p e s m args below meth c A X hr hlk hnm
  refine sg_Mo_type_0 X (fun _ _ _ _ _ _ h => h) (hw_rtz X hr hlk) ?_
  unfold vc_Mo_type_0
  have hne : M ≠ m0 0 := by intro z; rw [← z, hM] at hC; cases hC
  have B2 : tx_ok len x n = false → ∀ y, hw_Ji p l e (hw_R 2 0 0) s m args below meth c 6 g A (fun r w' => r = hw_z (tx_ok len x n) ∧ (tx_ok len x n = false → w' = w) ∧ (tx_ok len x n = true → w' M = some (mo_g m0 (nI (len + n.toNatClampNeg)) wo ne si fa va cl li hi em hn pl) ∧ w' (m0 0) = some (.inl (g.2.1 0, 160, .inl (tx_put x n.toNatClampNeg f len))) ∧ ∀ a, a ≠ M → a ≠ m0 0 → w' a = w a)) 0 0 89 [some (.ref M), some (.int x), some (.int n), some (.int 0), some (.int y), none] [] w := by
    intro hno y
    refine sg_Mo_type_89 X (fun _ _ _ _ _ _ h => h) (hw_rtz X hr hlk) ?_
    unfold vc_Mo_type_89
    exact ⟨fun _ => ⟨hw_00, Or.inl rfl, hw_z_f hno, fun _ => rfl, fun z => (by rw [hno] at z; cases z)⟩, fun _ => ⟨fun _ => ⟨hw_00, Or.inl rfl, hw_z_f hno, fun _ => rfl, fun z => (by rw [hno] at z; cases z)⟩, fun h => absurd rfl h⟩⟩
  have B1 : tx_ok len x n = false → ∀ y, hw_Ji p l e (hw_R 2 0 0) s m args below meth c 6 g A (fun r w' => r = hw_z (tx_ok len x n) ∧ (tx_ok len x n = false → w' = w) ∧ (tx_ok len x n = true → w' M = some (mo_g m0 (nI (len + n.toNatClampNeg)) wo ne si fa va cl li hi em hn pl) ∧ w' (m0 0) = some (.inl (g.2.1 0, 160, .inl (tx_put x n.toNatClampNeg f len))) ∧ ∀ a, a ≠ M → a ≠ m0 0 → w' a = w a)) 0 0 30 [some (.ref M), some (.int x), some (.int n), some (.int 0), some (.int y), none] [] w := by
    intro hno y
    refine sg_Mo_type_30 X (fun _ _ _ _ _ _ h => h) (hw_rtz X hr hlk) ?_
    unfold vc_Mo_type_30
    exact ⟨fun _ y _ => B2 hno y, fun _ => ⟨fun _ y _ => B2 hno y, fun h => absurd rfl h⟩⟩
  refine hw_ci_0 (by decide) (by decide) (ct_Mo_in (v := n) (lo := 1) (hi := 4) l g w) (Nat.zero_le _) (Nat.zero_le _) ?_
  rintro r w1 ⟨rfl, rfl⟩
  refine ⟨fun h => ?_, fun h => ?_⟩
  · have h2 := (hw_z_eq _).mp h
    exact B1 (by simp only [tx_ok, ← Bool.and_assoc, h2, Bool.false_and]) _
  have h2 := (hw_z_ne _).mp h
  simp at h2
  have h1 : ¬ n < 1 := Int32.not_lt.mpr h2.1
  have h4 : ¬ 4 < n := Int32.not_lt.mpr h2.2
  obtain ⟨j, j1, j4, rfl, hcl⟩ := tx_n4 h1 h4
  refine ⟨_, ⟨_, hM, rfl⟩, fun h9 => B1 (tx_no160 h9) _, fun h9 => ?_⟩
  have hlj : len + j ≤ 160 := by have := mt (tx_160 hl j4).mpr h9; omega
  have hyes : ∀ y, tx_ok len y (nI j) = tx_all y j := fun y => tx_yes h1 h4 h9 hcl
  have L2 : ∀ (k l1 : Nat) (f1 : Nat → Int32) (w2 : hw_H), k ≤ 4 → l1 + k = len + j → tx_all x j = true → tx_put x k f1 l1 = tx_put x j f len → w2 M = some (mo_g m0 (nI l1) wo ne si fa va cl li hi em hn pl) → w2 (m0 0) = some (.inl (g.2.1 0, 160, .inl f1)) → (∀ a, a ≠ M → a ≠ m0 0 → w2 a = w1 a) → hw_Ji p l e (hw_R 2 0 0) s m args below meth c 6 g A (fun r w' => r = hw_z (tx_ok len x (nI j)) ∧ (tx_ok len x (nI j) = false → w' = w1) ∧ (tx_ok len x (nI j) = true → w' M = some (mo_g m0 (nI (len + (nI j).toNatClampNeg)) wo ne si fa va cl li hi em hn pl) ∧ w' (m0 0) = some (.inl (g.2.1 0, 160, .inl (tx_put x (nI j).toNatClampNeg f len))) ∧ ∀ a, a ≠ M → a ≠ m0 0 → w' a = w1 a)) 0 0 89 [some (.ref M), some (.int x), some (.int (nI j)), some (.int 1), some (.int (tx_m k)), none] [] w2 := by
    intro k
    induction k with
    | zero =>
      intro l1 f1 w2 _ hs hall hput hT1 hC1 hoff
      refine sg_Mo_type_89 X (fun _ _ _ _ _ _ h => h) (hw_rtz X hr hlk) ?_
      unfold vc_Mo_type_89
      refine ⟨fun _ => ⟨hw_00, Or.inr rfl, hw_z_t (by rw [hyes]; exact hall), fun z => (by rw [hyes, hall] at z; cases z), fun _ => ⟨?_, ?_, hoff⟩⟩, fun h9 => absurd tx_m0 h9⟩
      · rw [hcl, ← hs]; exact hT1
      · rw [hcl, ← hput]; exact hC1
    | succ k ih =>
      intro l1 f1 w2 hk hs hall hput hT1 hC1 hoff
      refine sg_Mo_type_89 X (fun _ _ _ _ _ _ h => h) (hw_rtz X hr hlk) ?_
      unfold vc_Mo_type_89
      rw [tx_ms]
      refine ⟨fun h9 => absurd h9 (nI_pos (by omega)), fun _ => ⟨fun h9 => absurd h9 (by decide), fun _ => ⟨_, ⟨_, hT1, rfl⟩, _, ⟨_, hT1, rfl⟩, _, ⟨_, _, hC1, vp_in_nI (by omega) (by omega), rfl⟩, _, ⟨_, by rw [va_up_ne _ _ hne]; exact hT1, rfl⟩, _, ⟨_, by rw [va_up_ne _ _ hne]; exact hT1, Nat.le_of_ble_eq_true rfl, rfl⟩, ?_⟩⟩⟩
      rw [tx_mp]
      refine ih (l1 + 1) (upd f1 l1 (tx_by x k)) _ (by omega) (by omega) hall hput ?_ ?_ ?_
      · rw [← nI_1]; exact (va_up_self _ _ _)
      · rw [va_up_ne _ _ hne.symm, nI_clamp (by omega)]; exact (va_up_self _ _ _)
      · intro a ha hb2
        rw [va_up_ne _ _ ha, va_up_ne _ _ hb2]
        exact hoff a ha hb2
  have L1 : ∀ (d k : Nat), k + d = j → tx_all x k = true → hw_Ji p l e (hw_R 2 0 0) s m args below meth c 6 g A (fun r w' => r = hw_z (tx_ok len x (nI j)) ∧ (tx_ok len x (nI j) = false → w' = w1) ∧ (tx_ok len x (nI j) = true → w' M = some (mo_g m0 (nI (len + (nI j).toNatClampNeg)) wo ne si fa va cl li hi em hn pl) ∧ w' (m0 0) = some (.inl (g.2.1 0, 160, .inl (tx_put x (nI j).toNatClampNeg f len))) ∧ ∀ a, a ≠ M → a ≠ m0 0 → w' a = w1 a)) 0 0 30 [some (.ref M), some (.int x), some (.int (nI j)), some (.int 1), some (.int (nI k)), none] [] w1 := by
    intro d
    induction d with
    | zero =>
      intro k hk hall
      refine sg_Mo_type_30 X (fun _ _ _ _ _ _ h => h) (hw_rtz X hr hlk) ?_
      unfold vc_Mo_type_30
      have hkj : k = j := by omega
      subst hkj
      refine ⟨fun _ y hy => ?_, fun h9 => absurd (Int32.le_refl _) h9⟩
      subst hy
      exact L2 k len f w1 j4 rfl hall rfl hM hC (fun _ _ _ => rfl)
    | succ d ih =>
      intro k hk hall
      refine sg_Mo_type_30 X (fun _ _ _ _ _ _ h => h) (hw_rtz X hr hlk) ?_
      unfold vc_Mo_type_30
      refine ⟨fun h9 => absurd h9 (nI_ge (by omega) (by omega)), fun _ => ⟨fun h9 => absurd h9 (by decide), fun _ y hy => ?_⟩⟩
      have hb : y = tx_by x k := hy
      subst hb
      have nx : ∀ b : Bool, tx_ch (tx_by x k) = b → hw_Ji p l e (hw_R 2 0 0) s m args below meth c 6 g A (fun r w' => r = hw_z (tx_ok len x (nI j)) ∧ (tx_ok len x (nI j) = false → w' = w1) ∧ (tx_ok len x (nI j) = true → w' M = some (mo_g m0 (nI (len + (nI j).toNatClampNeg)) wo ne si fa va cl li hi em hn pl) ∧ w' (m0 0) = some (.inl (g.2.1 0, 160, .inl (tx_put x (nI j).toNatClampNeg f len))) ∧ ∀ a, a ≠ M → a ≠ m0 0 → w' a = w1 a)) 0 0 30 [some (.ref M), some (.int x), some (.int (nI j)), some (.int (hw_z b)), some (.int (nI k + 1)), none] [] w1 := by
        intro b hb
        cases b with
        | true =>
          rw [nI_1]
          exact ih (k + 1) (by omega) (by simp [tx_all, hb, hall])
        | false =>
          exact B1 (by rw [hyes]; exact tx_all_f (k := k + 1) (by simp [tx_all, hb]) (by omega)) _
      refine ⟨fun h9 => nx true (by rw [h9]; decide), fun h9 => hw_ci_0 (by decide) (by decide) (ct_Mo_in (v := tx_by x k) (lo := 32) (hi := 126) l g w1) (Nat.zero_le _) (Nat.zero_le _) ?_⟩
      rintro r w3 ⟨rfl, rfl⟩
      have e9 : tx_ch (tx_by x k) = (!decide (tx_by x k < 32) && !decide (126 < tx_by x k)) := by simp [tx_ch, h9]
      rw [← e9]
      exact ⟨fun h8 => nx false ((hw_z_eq _).mp h8), fun h8 => nx true ((hw_z_ne _).mp h8)⟩
  exact L1 j 0 (by omega) rfl
