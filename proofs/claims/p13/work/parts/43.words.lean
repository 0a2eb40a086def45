def mo_iw (ch : Nat → Int32) (a b : Nat) (x1 x2 x3 : Int32) : Bool := if x2 = 0 then decide (b - a = 1) && decide (ch a = x1) else decide (b - a = 3) && (decide (ch a = x1) && (decide (ch (a + 1) = x2) && decide (ch (a + 2) = x3)))
def mo_ik (ch bg en : Nat → Int32) (n k : Nat) (x1 x2 x3 : Int32) : Bool := decide (k < n) && mo_iw ch (bg k).toNatClampNeg (en k).toNatClampNeg x1 x2 x3
set_option maxHeartbeats 4000000 in
set_option maxRecDepth 100000 in
theorem ct_Mo_isWord (l : Launch) (g : hw_G) (w : hw_H) {r : Nat → Nat} {ty ft va cl lv hg em hn pl : Int32} {ch bg en ma lt nu hh kn bf : Nat → Int32} {k n L : Nat} {x1 x2 x3 : Int32} (H : mo_I g w r ty (nI n) (nI k) (nI L) ft va cl lv hg em hn pl ch bg en ma lt nu hh kn bf) (hW : mo_W n bg en L) (hk : k < 1000) : hw_Mi l g ym_Mo_isWord mw_Mo_isWord (hw_R 1 0 0) [.ref (r 9), .int x1, .int x2, .int x3] w (fun r0 w' => r0 = hw_z (mo_ik ch bg en n k x1 x2 x3) ∧ w' = w) := by
  refine hw_enteri (r := 2) rfl rfl (by simp [Value.category]) (Nat.le_of_ble_eq_true rfl) ?_
  intro p e s m args below meth c A X hr hlk hnm
  refine sg_Mo_isWord_0 X (fun _ _ _ _ _ _ h => h) (hw_rtz X hr hlk) ?_
  unfold vc_Mo_isWord_0
  have H0 := H
  obtain ⟨D, M, A0, A1, A2, A3, A4, A5, A6, A7, A8⟩ := H
  obtain ⟨hn0, hL0, hw0⟩ := hW
  by_cases hkn : k < n
  rotate_left
  · exact ⟨_, ⟨_, M, rfl⟩, _, ⟨_, M, rfl⟩, fun h => absurd h (nI_nlt (by omega) (by omega)), fun _ => ⟨hw_00, Or.inl rfl, (by simp [mo_ik, hkn, hw_z]), rfl⟩⟩
  obtain ⟨a, b, hab, hbL, ha, hb⟩ := hw0 k hkn
  have hE : mo_ik ch bg en n k x1 x2 x3 = mo_iw ch a b x1 x2 x3 := by
    unfold mo_ik; rw [ha, hb, nI_clamp (by omega), nI_clamp (by omega)]; simp [hkn]
  rw [hE]
  refine ⟨_, ⟨_, M, rfl⟩, _, ⟨_, M, rfl⟩, fun _ => ⟨_, ⟨_, M, rfl⟩, _, ⟨_, M, rfl⟩, _, hw_rv A1 (by omega) (by decide) ha, _, ⟨_, M, rfl⟩, _, ⟨_, M, rfl⟩, _, hw_rv A2 (by omega) (by decide) hb, fun y hy => ?_⟩, fun h => absurd (nI_lt hkn (by omega)) h⟩
  rw [pk_sub (by omega)] at hy
  subst hy
  have e1 : (nI (b - a) = 1) ↔ b - a = 1 := nI_eq (b := 1) (by omega) (by omega)
  have e3 : (nI (b - a) = 3) ↔ b - a = 3 := nI_eq (b := 3) (by omega) (by omega)
  unfold mo_iw
  refine ⟨fun h2 => ⟨fun h3 => ⟨hw_00, Or.inl rfl, ?_, rfl⟩, fun h3 => ⟨_, ⟨_, M, rfl⟩, _, hw_rd A0 (by omega) (by decide), fun h4 => ⟨hw_00, Or.inl rfl, ?_, rfl⟩, fun h4 => ⟨fun h5 => absurd (h3.symm.trans h5) (by decide), fun h5 => ⟨_, ⟨_, M, rfl⟩, _, hw_rx (a + 1) A0 (nI_1 a) (by have := e3.mp h3; omega) (by decide), fun h6 => ⟨hw_00, Or.inl rfl, ?_, rfl⟩, fun h6 => ⟨_, ⟨_, M, rfl⟩, _, hw_rx (a + 2) A0 (nI_add a 2) (by have := e3.mp h3; omega) (by decide), fun h7 => ⟨hw_00, Or.inl rfl, ?_, rfl⟩, fun h7 => ⟨hw_00, Or.inr rfl, ?_, rfl⟩⟩⟩⟩⟩⟩, fun h2 => ⟨fun h3 => ⟨hw_00, Or.inl rfl, ?_, rfl⟩, fun h3 => ⟨_, ⟨_, M, rfl⟩, _, hw_rd A0 (by omega) (by decide), fun h4 => ⟨hw_00, Or.inl rfl, ?_, rfl⟩, fun h4 => ⟨fun h5 => ⟨hw_00, Or.inr rfl, ?_, rfl⟩, fun h5 => absurd h3 h5⟩⟩⟩⟩
  · rw [if_neg h2]; simp [mt e3.mpr h3, hw_z]
  · rw [if_neg h2]; simp [h4, hw_z]
  · rw [if_neg h2]; simp [h6, hw_z]
  · rw [if_neg h2]; simp [h7, hw_z]
  · rw [if_neg h2]; simp [e3.mp h3, h4, h6, h7, hw_z]
  · rw [if_pos h2]; simp [mt e1.mpr h3, hw_z]
  · rw [if_pos h2]; simp [h4, hw_z]
  · rw [if_pos h2]; simp [e1.mp h3, h4, hw_z]
set_option maxHeartbeats 4000000 in
set_option maxRecDepth 100000 in
theorem ct_Mo_expect (l : Launch) (g : hw_G) (w : hw_H) {r : Nat → Nat} {ty ft va cl lv hg em hn pl : Int32} {ch bg en ma lt nu hh kn bf : Nat → Int32} {k n L : Nat} {x1 x2 x3 : Int32} (H : mo_I g w r ty (nI n) (nI k) (nI L) ft va cl lv hg em hn pl ch bg en ma lt nu hh kn bf) (hW : mo_W n bg en L) (hk : k < 1000) : hw_Mv l g ym_Mo_expect mw_Mo_expect (hw_R 2 0 0) [.ref (r 9), .int x1, .int x2, .int x3] w (fun w' => mo_I g w' r ty (nI n) (nI (k + 1)) (nI L) (if mo_ik ch bg en n k x1 x2 x3 = true then ft else mo_fl ft n k L bg) va cl lv hg em hn pl ch bg en ma lt nu hh kn bf ∧ mo_K w w' r) := by
  refine hw_enterv (r := 0) rfl rfl (by simp [Value.category]) (Nat.le_of_ble_eq_true rfl) ?_
  intro p e s m args below meth c A X hr hlk hnm
  refine sg_Mo_expect_0 X (fun _ _ _ _ _ _ h => h) (hw_rtv X hr hlk) ?_
  unfold vc_Mo_expect_0
  have H0 := H
  obtain ⟨D, M, A0, A1, A2, A3, A4, A5, A6, A7, A8⟩ := H
  refine ⟨hw_o_of M rfl rfl, hw_ci_0 (by decide) (by decide) (ct_Mo_isWord l g w H0 hW hk) (Nat.zero_le _) (Nat.zero_le _) ?_⟩
  rintro r1 w1 ⟨hr1, rfl⟩
  refine ⟨fun h1 => ⟨_, ⟨_, M, rfl⟩, _, ⟨_, M, Nat.le_of_ble_eq_true rfl, rfl⟩, hw_00, ?_, mo_K_u mo_K_r (by decide)⟩, fun h1 => ⟨hw_o_of M rfl rfl, hw_cv_0 (by decide) (by decide) (ct_Mo_fail l g w1 H0 hW hk) (Nat.zero_le _) (Nat.zero_le _) ?_⟩⟩
  · rw [hr1] at h1
    rw [if_pos ((hw_z_ne _).mp h1), nI_1]
    exact mo_u9 ty (nI n) (nI (k + 1)) (nI L) ft va cl lv hg em hn pl H0
  · rw [hr1] at h1
    rintro w2 ⟨h3, h4⟩
    have M2 := h3.2.1
    refine ⟨_, ⟨_, M2, rfl⟩, _, ⟨_, M2, Nat.le_of_ble_eq_true rfl, rfl⟩, hw_00, ?_, mo_K_u h4 (by decide)⟩
    rw [if_neg (by rw [(hw_z_eq _).mp h1]; decide), nI_1]
    exact mo_u9 ty (nI n) (nI (k + 1)) (nI L) (mo_fl ft n k L bg) va cl lv hg em hn pl h3
theorem mo_ix (kc j : Nat) : ((6 : Int32) * nI kc) + nI j = nI (6 * kc + j) := by
  have e : (6 : Int32) * nI kc = nI (6 * kc) := pk_mul 6 kc
  rw [e, nI_add]
set_option maxHeartbeats 4000000 in
set_option maxRecDepth 100000 in
theorem ct_Mo_literalOf (l : Launch) (g : hw_G) (w : hw_H) {r : Nat → Nat} {ty wo nx sz ft va cl lv hg em hn pl : Int32} {ch bg en ma lt nu hh kn bf : Nat → Int32} {kc j : Nat} (H : mo_I g w r ty wo nx sz ft va cl lv hg em hn pl ch bg en ma lt nu hh kn bf) (hj : 6 * kc + j < 534) : hw_Mi l g ym_Mo_literalOf mw_Mo_literalOf (hw_R 1 0 0) [.ref (r 9), .int (nI kc), .int (nI j)] w (fun r0 w' => r0 = lt (6 * kc + j) ∧ w' = w) := by
  refine hw_enteri (r := 0) rfl rfl (by simp [Value.category]) (Nat.le_of_ble_eq_true rfl) ?_
  intro p e s m args below meth c A X hr hlk hnm
  refine sg_Mo_literalOf_0 X (fun _ _ _ _ _ _ h => h) (hw_rti X hr hlk) ?_
  unfold vc_Mo_literalOf_0
  have H0 := H
  obtain ⟨D, M, A0, A1, A2, A3, A4, A5, A6, A7, A8⟩ := H
  exact ⟨_, ⟨_, M, rfl⟩, _, hw_rx (6 * kc + j) A4 (mo_ix kc j) hj (by decide), hw_00, rfl, rfl⟩
set_option maxHeartbeats 4000000 in
set_option maxRecDepth 100000 in
theorem ct_Mo_hasLiteral (l : Launch) (g : hw_G) (w : hw_H) {r : Nat → Nat} {ty wo nx sz ft va cl lv hg em hn pl : Int32} {ch bg en ma lt nu hh kn bf : Nat → Int32} {kc j : Nat} {x : Int32} (H : mo_I g w r ty wo nx sz ft va cl lv hg em hn pl ch bg en ma lt nu hh kn bf) (hc : kc < 89) (hm : ma kc = nI j) (hj : j ≤ 6) : hw_Mi l g ym_Mo_hasLiteral mw_Mo_hasLiteral (hw_R 2 0 0) [.ref (r 9), .int (nI kc), .int x] w (fun r0 w' => w' = w ∧ ((r0 = 0 ∧ ∀ i, i < j → ¬ lt (6 * kc + i) = x) ∨ (r0 = 1 ∧ ∃ i, i < j ∧ lt (6 * kc + i) = x))) := by
  refine hw_enteri (r := 2) rfl rfl (by simp [Value.category]) (Nat.le_of_ble_eq_true rfl) ?_
  intro p e s m args below meth c A X hr hlk hnm
  refine sg_Mo_hasLiteral_0 X (fun _ _ _ _ _ _ h => h) (hw_rtz X hr hlk) ?_
  unfold vc_Mo_hasLiteral_0
  have H0 := H
  obtain ⟨D, M, A0, A1, A2, A3, A4, A5, A6, A7, A8⟩ := H
  have L1 : ∀ (d i : Nat) (x3 : Int32), i + d = j → ((x3 = 0 ∧ ∀ i', i' < i → ¬ lt (6 * kc + i') = x) ∨ (x3 = 1 ∧ ∃ i', i' < i ∧ lt (6 * kc + i') = x)) → hw_Ji p l e (hw_R 2 0 0) s m args below meth c 5 g A (fun r0 w' => w' = w ∧ ((r0 = 0 ∧ ∀ i, i < j → ¬ lt (6 * kc + i) = x) ∨ (r0 = 1 ∧ ∃ i, i < j ∧ lt (6 * kc + i) = x))) 0 0 5 [some (.ref (r 9)), some (.int (nI kc)), some (.int x), some (.int x3), some (.int (nI i))] [] w := by
    intro d
    induction d with
    | zero =>
      intro i x3 hi hx
      have hi2 : i = j := by omega
      subst hi2
      refine sg_Mo_hasLiteral_5 X (fun _ _ _ _ _ _ h => h) (hw_rtz X hr hlk) ?_
      unfold vc_Mo_hasLiteral_5
      refine ⟨_, ⟨_, M, rfl⟩, _, hw_rv A3 hc (by decide) hm, fun _ => ⟨hw_00, ?_, rfl, hx⟩, fun h => absurd (Int32.le_refl _) h⟩
      rcases hx with hx | hx
      · exact Or.inl hx.1
      · exact Or.inr hx.1
    | succ d ih =>
      intro i x3 hi hx
      refine sg_Mo_hasLiteral_5 X (fun _ _ _ _ _ _ h => h) (hw_rtz X hr hlk) ?_
      unfold vc_Mo_hasLiteral_5
      refine ⟨_, ⟨_, M, rfl⟩, _, hw_rv A3 hc (by decide) hm, fun h => absurd h (nI_ge (by omega) (by omega)), fun _ => ⟨fun h => ?_, fun h => ⟨hw_o_of M rfl rfl, hw_ci_0 (by decide) (by decide) (ct_Mo_literalOf l g w H0 (by omega)) (Nat.zero_le _) (Nat.zero_le _) ?_⟩⟩⟩
      · rw [nI_1]
        refine ih (i + 1) _ (by omega) (Or.inr ⟨rfl, ?_⟩)
        rcases hx with hx | ⟨_, i', h1, h2⟩
        · exact absurd hx.1 h
        · exact ⟨i', by omega, h2⟩
      rintro r1 w1 ⟨rfl, rfl⟩
      have hx0 : ∀ i', i' < i → ¬ lt (6 * kc + i') = x := by
        rcases hx with hx | hx
        · exact hx.2
        · rw [hx.1] at h; exact absurd h (by decide)
      refine ⟨fun h2 => ?_, fun h2 => ?_⟩
      · rw [nI_1]
        refine ih (i + 1) _ (by omega) (Or.inl ⟨rfl, fun i' hi' => ?_⟩)
        by_cases hii : i' = i
        · subst hii; exact h2
        · exact hx0 i' (by omega)
      · rw [nI_1]
        exact ih (i + 1) _ (by omega) (Or.inr ⟨rfl, i, by omega, h2⟩)
  exact L1 j 0 0 (by omega) (Or.inl ⟨rfl, fun i' z => absurd z (Nat.not_lt_zero _)⟩)
set_option maxHeartbeats 4000000 in
set_option maxRecDepth 100000 in
theorem ct_Mo_copy (l : Launch) (g : hw_G) (w : hw_H) {r : Nat → Nat} {ty wo nx sz ft va cl lv hg em hn pl : Int32} {ch bg en ma lt nu hh kn bf : Nat → Int32} {c1 c2 j : Nat} (H : mo_I g w r ty wo nx sz ft va cl lv hg em hn pl ch bg en ma lt nu hh kn bf) (h1 : c1 < 89) (h2 : c2 < 89) (h12 : c1 ≠ c2) (hm : ma c1 = nI j) (hj : j ≤ 6) : hw_Mv l g ym_Mo_copy mw_Mo_copy (hw_R 2 0 0) [.ref (r 9), .int (nI c1), .int (nI c2)] w (fun w' => ∃ lt' : Nat → Int32, (∀ i, i < j → lt' (6 * c2 + i) = lt (6 * c1 + i)) ∧ (∀ q, q < 6 * c2 ∨ 6 * c2 + j ≤ q → lt' q = lt q) ∧ mo_I g w' r ty wo nx sz ft va cl lv hg em hn pl ch bg en (upd ma c2 (nI j)) lt' nu hh kn bf ∧ mo_K w w' r) := by
  refine hw_enterv (r := 1) rfl rfl (by simp [Value.category]) (Nat.le_of_ble_eq_true rfl) ?_
  intro p e s m args below meth c A X hr hlk hnm
  refine sg_Mo_copy_0 X (fun _ _ _ _ _ _ h => h) (hw_rtv X hr hlk) ?_
  unfold vc_Mo_copy_0
  have H0 := H
  obtain ⟨D, M, A0, A1, A2, A3, A4, A5, A6, A7, A8⟩ := H
  have L1 : ∀ (d i : Nat) (lt1 : Nat → Int32) (w1 : hw_H), i + d = j → (∀ i', i' < i → lt1 (6 * c2 + i') = lt (6 * c1 + i')) → (∀ q, q < 6 * c2 ∨ 6 * c2 + i ≤ q → lt1 q = lt q) → mo_I g w1 r ty wo nx sz ft va cl lv hg em hn pl ch bg en (upd ma c2 (nI j)) lt1 nu hh kn bf → mo_K w w1 r → hw_Jv p l e (hw_R 2 0 0) s m args below meth c 4 g A (fun w' => ∃ lt' : Nat → Int32, (∀ i, i < j → lt' (6 * c2 + i) = lt (6 * c1 + i)) ∧ (∀ q, q < 6 * c2 ∨ 6 * c2 + j ≤ q → lt' q = lt q) ∧ mo_I g w' r ty wo nx sz ft va cl lv hg em hn pl ch bg en (upd ma c2 (nI j)) lt' nu hh kn bf ∧ mo_K w w' r) 0 0 14 [some (.ref (r 9)), some (.int (nI c1)), some (.int (nI c2)), some (.int (nI i))] [] w1 := by
    intro d
    induction d with
    | zero =>
      intro i lt1 w1 hi ha hb H1 hK1
      have hi2 : i = j := by omega
      subst hi2
      have M1 := H1.2.1
      refine sg_Mo_copy_14 X (fun _ _ _ _ _ _ h => h) (hw_rtv X hr hlk) ?_
      unfold vc_Mo_copy_14
      exact ⟨_, ⟨_, M1, rfl⟩, _, hw_rv H1.2.2.2.2.2.1 h1 (by decide) ((pk_un h12).trans hm), fun _ => ⟨hw_00, lt1, ha, hb, H1, hK1⟩, fun h => absurd (Int32.le_refl _) h⟩
    | succ d ih =>
      intro i lt1 w1 hi ha hb H1 hK1
      have M1 := H1.2.1
      refine sg_Mo_copy_14 X (fun _ _ _ _ _ _ h => h) (hw_rtv X hr hlk) ?_
      unfold vc_Mo_copy_14
      refine ⟨_, ⟨_, M1, rfl⟩, _, hw_rv H1.2.2.2.2.2.1 h1 (by decide) ((pk_un h12).trans hm), fun h => absurd h (nI_ge (by omega) (by omega)), fun _ => ⟨_, ⟨_, M1, rfl⟩, hw_o_of M1 rfl rfl, hw_ci_0 (by decide) (by decide) (ct_Mo_literalOf l g w1 H1 (by omega)) (Nat.zero_le _) (Nat.zero_le _) ?_⟩⟩
      rintro r1 w2 ⟨rfl, rfl⟩
      refine ⟨_, hw_wx (6 * c2 + i) H1.2.2.2.2.2.2.1 (mo_ix c2 i) (by omega) (by decide), ?_⟩
      rw [nI_1]
      have e9 : lt1 (6 * c1 + i) = lt (6 * c1 + i) := hb _ (by omega)
      refine ih (i + 1) (upd lt1 (6 * c2 + i) (lt1 (6 * c1 + i))) _ (by omega) (fun i' hi' => ?_) (fun q hq => ?_) (mo_u4 _ H1) (mo_K_u hK1 (by decide))
      · by_cases hii : i' = i
        · subst hii; rw [pk_us]; exact e9
        · rw [pk_un (by omega)]; exact ha i' (by omega)
      · rw [pk_un (by omega)]; exact hb q (by omega)
  refine ⟨_, ⟨_, M, rfl⟩, _, ⟨_, M, rfl⟩, _, hw_rv A3 h1 (by decide) hm, _, hw_wr A3 h2 (by decide), ?_⟩
  exact L1 j 0 lt _ (by omega) (fun i' z => absurd z (Nat.not_lt_zero _)) (fun _ _ => rfl) (mo_u3 _ H0) (mo_K_u mo_K_r (by decide))
theorem mo_a_c {ma lt lt' : Nat → Int32} {c1 c2 j : Nat} (h : mo_a ma lt) (h1 : c1 < 89) (hj : j ≤ 6) (ha : ∀ i, i < j → lt' (6 * c2 + i) = lt (6 * c1 + i)) (hb : ∀ q, q < 6 * c2 ∨ 6 * c2 + j ≤ q → lt' q = lt q) : mo_a (upd ma c2 (nI j)) lt' := by
  refine ⟨fun i hi => ?_, fun q hq => ?_⟩
  · by_cases hic : i = c2
    · subst hic; exact ⟨j, hj, pk_us⟩
    · rw [pk_un hic]; exact h.1 i hi
  · by_cases hin : q < 6 * c2 ∨ 6 * c2 + j ≤ q
    · rw [hb q hin]; exact h.2 q hq
    · have e := ha (q - 6 * c2) (by omega)
      rw [show 6 * c2 + (q - 6 * c2) = q by omega] at e
      rw [e]; exact h.2 _ (by omega)
