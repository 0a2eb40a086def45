set_option maxHeartbeats 4000000 in
set_option maxRecDepth 100000 in
theorem ct_Mo_groupsHold (l : Launch) (g : hw_G) (w : hw_H) {r : Nat → Nat} {ty wo nx sz ft va cl hg em : Int32} {ch bg en ma lt nu hh kn bf : Nat → Int32} {Lv h p0 : Nat} {x : Int32} (H : mo_I g w r ty wo nx sz ft va cl (nI Lv) hg em (nI h) (nI p0) ch bg en ma lt nu hh kn bf) (hLv : Lv ≤ 40) (hh0 : h ≤ 12) (hp : p0 ≤ h) (ha : mo_a ma lt) : hw_Mi l g ym_Mo_groupsHold mw_Mo_groupsHold (hw_R 4 0 0) [.ref (r 9), .int x] w (fun r0 w' => ∃ (p' : Nat) (kn' bf' : Nat → Int32), p' ≤ h ∧ mo_I g w' r ty wo nx sz ft va cl (nI Lv) hg em (nI h) (nI p') ch bg en ma lt nu hh kn' bf' ∧ mo_K w w' r) := by
  refine hw_enteri (r := 1) rfl rfl (by simp [Value.category]) (Nat.le_of_ble_eq_true rfl) ?_
  intro p e s m args below meth c A X hr hlk hnm
  refine sg_Mo_groupsHold_0 X (fun _ _ _ _ _ _ h => h) (hw_rtz X hr hlk) ?_
  unfold vc_Mo_groupsHold_0
  have H0 := H
  obtain ⟨D, M, A0, A1, A2, A3, A4, A5, A6, A7, A8⟩ := H
  have L28 : ∀ (d i p1 : Nat) (kn1 bf1 : Nat → Int32) (w1 : hw_H), i + d = Lv → p1 ≤ h → mo_I g w1 r ty wo nx sz ft va cl (nI Lv) hg em (nI h) (nI p1) ch bg en ma lt nu hh kn1 bf1 → mo_K w w1 r → hw_Ji p l e (hw_R 4 0 0) s m args below meth c 3 g A (fun r0 w' => ∃ (p' : Nat) (kn' bf' : Nat → Int32), p' ≤ h ∧ mo_I g w' r ty wo nx sz ft va cl (nI Lv) hg em (nI h) (nI p') ch bg en ma lt nu hh kn' bf' ∧ mo_K w w' r) 0 0 28 [some (.ref (r 9)), some (.int x), some (.int (nI i))] [] w1 := by
    intro d
    induction d with
    | zero =>
      intro i p1 kn1 bf1 w1 hi hp1 H1 hK1
      have hi2 : i = Lv := by omega
      subst hi2
      refine sg_Mo_groupsHold_28 X (fun _ _ _ _ _ _ h => h) (hw_rtz X hr hlk) ?_
      unfold vc_Mo_groupsHold_28
      exact ⟨_, ⟨_, H1.2.1, rfl⟩, fun _ => ⟨_, ⟨_, H1.2.1, rfl⟩, _, ⟨_, H1.2.1, rfl⟩, fun _ => ⟨hw_00, Or.inl rfl, p1, kn1, bf1, hp1, H1, hK1⟩, fun _ => ⟨hw_00, Or.inr rfl, p1, kn1, bf1, hp1, H1, hK1⟩⟩, fun h => absurd (Int32.le_refl _) h⟩
    | succ d ih =>
      intro i p1 kn1 bf1 w1 hi hp1 H1 hK1
      obtain ⟨j, hj, hm⟩ := ha.1 (24 + i) (by omega)
      have L102 : ∀ (d2 p2 : Nat) (kn2 bf2 : Nat → Int32) (w2 : hw_H), p2 + d2 = h → mo_I g w2 r ty wo nx sz ft va cl (nI Lv) hg em (nI h) (nI p2) ch bg en ma lt nu hh kn2 bf2 → mo_K w w2 r → hw_Ji p l e (hw_R 4 0 0) s m args below meth c 3 g A (fun r0 w' => ∃ (p' : Nat) (kn' bf' : Nat → Int32), p' ≤ h ∧ mo_I g w' r ty wo nx sz ft va cl (nI Lv) hg em (nI h) (nI p') ch bg en ma lt nu hh kn' bf' ∧ mo_K w w' r) 0 0 102 [some (.ref (r 9)), some (.int x), some (.int (nI i))] [] w2 := by
        intro d2
        induction d2 with
        | zero =>
          intro p2 kn2 bf2 w2 hp2 H2 hK2
          have hi2 : p2 = h := by omega
          subst hi2
          refine sg_Mo_groupsHold_102 X (fun _ _ _ _ _ _ h => h) (hw_rtz X hr hlk) ?_
          unfold vc_Mo_groupsHold_102
          refine ⟨_, ⟨_, H2.2.1, rfl⟩, _, ⟨_, H2.2.1, rfl⟩, fun _ => ?_, fun h => absurd (Int32.le_refl _) h⟩
          rw [nI_1]
          exact ih (i + 1) p2 kn2 bf2 w2 (by omega) (Nat.le_refl _) H2 hK2
        | succ d2 ih2 =>
          intro p2 kn2 bf2 w2 hp2 H2 hK2
          refine sg_Mo_groupsHold_102 X (fun _ _ _ _ _ _ h => h) (hw_rtz X hr hlk) ?_
          unfold vc_Mo_groupsHold_102
          refine ⟨_, ⟨_, H2.2.1, rfl⟩, _, ⟨_, H2.2.1, rfl⟩, fun h => absurd h (nI_ge (by omega) (by omega)), fun _ => ⟨_, ⟨_, H2.2.1, rfl⟩, _, ⟨_, H2.2.1, rfl⟩, _, hw_rd H2.2.2.2.2.2.2.2.2.1 (by omega) (by decide), fun _ => ?_, fun _ => ⟨_, ⟨_, H2.2.1, rfl⟩, _, ⟨_, H2.2.1, Nat.le_of_ble_eq_true rfl, rfl⟩, ?_⟩⟩⟩
          · rw [nI_1]
            exact ih (i + 1) p2 kn2 bf2 w2 (by omega) (by omega) H2 hK2
          · rw [nI_1]
            exact ih2 (p2 + 1) kn2 bf2 _ (by omega) (mo_u9 ty wo nx sz ft va cl (nI Lv) hg em (nI h) (nI (p2 + 1)) H2) (mo_K_u hK2 (by decide))
      refine sg_Mo_groupsHold_28 X (fun _ _ _ _ _ _ h => h) (hw_rtz X hr hlk) ?_
      unfold vc_Mo_groupsHold_28
      rw [show (24 : Int32) + nI i = nI (24 + i) from nI_add 24 i]
      refine ⟨_, ⟨_, H1.2.1, rfl⟩, fun h => absurd h (nI_ge (by omega) (by omega)), fun _ => ⟨hw_o_of H1.2.1 rfl rfl, hw_ci_0 (by decide) (by decide) (ct_Mo_hasLiteral l g w1 H1 (by omega) hm hj) (Nat.zero_le _) (Nat.zero_le _) ?_⟩⟩
      rintro r1 w2 ⟨rfl, -⟩
      refine ⟨fun _ => ?_, fun _ => ⟨_, ⟨_, H1.2.1, rfl⟩, _, ⟨_, H1.2.1, rfl⟩, fun _ => ⟨hw_00, Or.inl rfl, p1, kn1, bf1, hp1, H1, hK1⟩, fun hlt => ⟨_, ⟨_, H1.2.1, rfl⟩, _, ⟨_, H1.2.1, rfl⟩, _, hw_rd H1.2.2.2.2.2.2.2.2.1 ?_ (by decide), _, ⟨_, H1.2.1, rfl⟩, _, hw_rd H1.2.2.2.2.2.2.2.1 (by omega) (by decide), fun _ => ⟨_, ⟨_, H1.2.1, rfl⟩, _, ⟨_, H1.2.1, Nat.le_of_ble_eq_true rfl, rfl⟩, ?_⟩, fun _ => ⟨hw_00, Or.inl rfl, p1, kn1, bf1, hp1, H1, hK1⟩⟩⟩⟩
      · rw [nI_1]
        exact ih (i + 1) p1 kn1 bf1 w2 (by omega) hp1 H1 hK1
      · rw [nI_leI (by omega) (by omega)] at hlt
        omega
      rw [nI_leI (by omega) (by omega)] at hlt
      rw [nI_1]
      have H2 := mo_u9 ty wo nx sz ft va cl (nI Lv) hg em (nI h) (nI (p1 + 1)) H1
      refine ⟨hw_o_of H2.2.1 rfl rfl, hw_ci_0 (by decide) (by decide) (ct_Mo_suppose l g _ H2 (by omega) hm hj ha.2) (Nat.zero_le _) (Nat.zero_le _) ?_⟩
      rintro r3 w3 ⟨kn3, H3, hK3⟩
      have hK3 := mo_K_t (mo_K_u hK1 (by decide)) hK3
      refine ⟨fun _ => ⟨hw_o_of H3.2.1 rfl rfl, hw_ci_0 (by decide) (by decide) (ct_Mo_follow l g w3 H3 hLv hh0 (by omega) ha) (Nat.zero_le _) (Nat.zero_le _) ?_⟩, fun _ => L102 (h - (p1 + 1)) (p1 + 1) kn3 bf1 w3 (by omega) H3 hK3⟩
      rintro r4 w4 ⟨p4, kn4, e1, e2, H4, hK4⟩
      refine ⟨fun _ => ?_, fun _ => ⟨hw_00, Or.inl rfl, p4, kn4, bf1, e2, H4, mo_K_t hK3 hK4⟩⟩
      rw [nI_1]
      exact ih (i + 1) p4 kn4 bf1 w4 (by omega) e2 H4 (mo_K_t hK3 hK4)
  have L2 : ∀ (d i : Nat) (bf1 : Nat → Int32) (w1 : hw_H), i + d = 21 → mo_I g w1 r ty wo nx sz ft va cl (nI Lv) hg em (nI h) (nI p0) ch bg en ma lt nu hh kn bf1 → mo_K w w1 r → hw_Ji p l e (hw_R 4 0 0) s m args below meth c 3 g A (fun r0 w' => ∃ (p' : Nat) (kn' bf' : Nat → Int32), p' ≤ h ∧ mo_I g w' r ty wo nx sz ft va cl (nI Lv) hg em (nI h) (nI p') ch bg en ma lt nu hh kn' bf' ∧ mo_K w w' r) 0 0 2 [some (.ref (r 9)), some (.int x), some (.int (nI i))] [] w1 := by
    intro d
    induction d with
    | zero =>
      intro i bf1 w1 hi H1 hK1
      have hi2 : i = 21 := by omega
      subst hi2
      refine sg_Mo_groupsHold_2 X (fun _ _ _ _ _ _ h => h) (hw_rtz X hr hlk) ?_
      unfold vc_Mo_groupsHold_2
      exact ⟨fun _ => L28 Lv 0 p0 kn bf1 w1 (by omega) hp H1 hK1, fun h => absurd (Int32.le_refl _) h⟩
    | succ d ih =>
      intro i bf1 w1 hi H1 hK1
      refine sg_Mo_groupsHold_2 X (fun _ _ _ _ _ _ h => h) (hw_rtz X hr hlk) ?_
      unfold vc_Mo_groupsHold_2
      refine ⟨fun h => absurd h (nI_ge (b := 21) (by omega) (by omega)), fun _ => ⟨_, ⟨_, H1.2.1, rfl⟩, _, ⟨_, H1.2.1, rfl⟩, _, hw_rd H1.2.2.2.2.2.2.2.2.2.1 (by omega) (by decide), _, hw_wr H1.2.2.2.2.2.2.2.2.2.2 (by omega) (by decide), ?_⟩⟩
      rw [nI_1]
      exact ih (i + 1) _ _ (by omega) (mo_u8 _ H1) (mo_K_u hK1 (by decide))
  exact L2 21 0 bf w rfl H0 mo_K_r
set_option maxHeartbeats 4000000 in
set_option maxRecDepth 100000 in
theorem ct_Mo_holds (l : Launch) (g : hw_G) (w : hw_H) {r : Nat → Nat} {ty wo nx sz ft va cl hg em pl : Int32} {ch bg en ma lt nu hh kn bf : Nat → Int32} {Lv h : Nat} (H : mo_I g w r ty wo nx sz ft va cl (nI Lv) hg em (nI h) pl ch bg en ma lt nu hh kn bf) (hLv : Lv ≤ 40) (hh0 : h ≤ 12) (ha : mo_a ma lt) : hw_Mi l g ym_Mo_holds mw_Mo_holds (hw_R 5 0 0) [.ref (r 9)] w (fun r0 w' => ∃ (p' : Nat) (kn' bf' : Nat → Int32), p' ≤ h ∧ mo_I g w' r ty wo nx sz ft va cl (nI Lv) hg em (nI h) (nI p') ch bg en ma lt nu hh kn' bf' ∧ mo_K w w' r) := by
  refine hw_enteri (r := 2) rfl rfl (by simp [Value.category]) (Nat.le_of_ble_eq_true rfl) ?_
  intro p e s m args below meth c A X hr hlk hnm
  refine sg_Mo_holds_0 X (fun _ _ _ _ _ _ h => h) (hw_rtz X hr hlk) ?_
  unfold vc_Mo_holds_0
  have H0 := H
  obtain ⟨D, M, A0, A1, A2, A3, A4, A5, A6, A7, A8⟩ := H
  obtain ⟨j, hj, hm⟩ := ha.1 64 (by decide)
  have L13 : ∀ (d i : Nat) (b : Bool) (kn1 : Nat → Int32) (w1 : hw_H), i + d = j → mo_I g w1 r ty wo nx sz ft va cl (nI Lv) hg em (nI h) (nI 0) ch bg en ma lt nu hh kn1 bf → mo_K w w1 r → hw_Ji p l e (hw_R 5 0 0) s m args below meth c 3 g A (fun r0 w' => ∃ (p' : Nat) (kn' bf' : Nat → Int32), p' ≤ h ∧ mo_I g w' r ty wo nx sz ft va cl (nI Lv) hg em (nI h) (nI p') ch bg en ma lt nu hh kn' bf' ∧ mo_K w w' r) 0 0 13 [some (.ref (r 9)), some (.int (hw_z b)), some (.int (nI i))] [] w1 := by
    intro d
    induction d with
    | zero =>
      intro i b kn1 w1 hi H1 hK1
      have hi2 : i = j := by omega
      subst hi2
      have fin0 : ∀ (p' : Nat) (kn' bf' : Nat → Int32) (w' : hw_H), p' ≤ h → mo_I g w' r ty wo nx sz ft va cl (nI Lv) hg em (nI h) (nI p') ch bg en ma lt nu hh kn' bf' → mo_K w w' r → ∃ (p' : Nat) (kn' bf' : Nat → Int32), p' ≤ h ∧ mo_I g w' r ty wo nx sz ft va cl (nI Lv) hg em (nI h) (nI p') ch bg en ma lt nu hh kn' bf' ∧ mo_K w w' r := fun p' kn' bf' w' a1 a2 a3 => ⟨p', kn', bf', a1, a2, a3⟩
      refine sg_Mo_holds_13 X (fun _ _ _ _ _ _ h => h) (hw_rtz X hr hlk) ?_
      unfold vc_Mo_holds_13
      refine ⟨_, ⟨_, H1.2.1, rfl⟩, _, hw_rx 64 H1.2.2.2.2.2.1 rfl (by decide) (by decide), ?_⟩
      rw [hm]
      refine ⟨fun _ => ⟨fun _ => ⟨hw_o_of H1.2.1 rfl rfl, hw_ci_0 (by decide) (by decide) (ct_Mo_follow l g w1 H1 hLv hh0 (Nat.zero_le _) ha) (Nat.zero_le _) (Nat.zero_le _) ?_⟩, fun _ => ⟨hw_00, Or.inr rfl, 0, kn1, bf, Nat.zero_le _, H1, hK1⟩⟩, fun h => absurd (Int32.le_refl _) h⟩
      rintro r2 w2 ⟨p2, kn2, e1, e2, H2, hK2⟩
      have hK2 := mo_K_t hK1 hK2
      refine ⟨fun _ => ⟨_, ⟨_, H2.2.1, rfl⟩, _, hw_rx 64 H2.2.2.2.2.2.1 rfl (by decide) (by decide), ?_⟩, fun _ => ⟨fun _ => ⟨hw_00, Or.inl rfl, p2, kn2, bf, e2, H2, hK2⟩, fun _ => ⟨hw_00, Or.inr rfl, p2, kn2, bf, e2, H2, hK2⟩⟩⟩
      refine ⟨fun _ => ⟨hw_00, Or.inl rfl, p2, kn2, bf, e2, H2, hK2⟩, fun _ => ⟨hw_o_of H2.2.1 rfl rfl, hw_ci_0 (by decide) (by decide) (ct_Mo_literalOf (kc := 64) (j := 0) l g w2 H2 (by decide)) (Nat.zero_le _) (Nat.zero_le _) ?_⟩⟩
      rintro r3 w3 ⟨rfl, rfl⟩
      refine ⟨hw_o_of H2.2.1 rfl rfl, hw_ci_0 (by decide) (by decide) (ct_Mo_groupsHold l g w3 H2 hLv hh0 e2 ha) (Nat.zero_le _) (Nat.zero_le _) ?_⟩
      rintro r4 w4 ⟨p4, kn4, bf4, e4, H4, hK4⟩
      exact ⟨fun _ => ⟨hw_00, Or.inl rfl, p4, kn4, bf4, e4, H4, mo_K_t hK2 hK4⟩, fun _ => ⟨hw_00, Or.inr rfl, p4, kn4, bf4, e4, H4, mo_K_t hK2 hK4⟩⟩
    | succ d ih =>
      intro i b kn1 w1 hi H1 hK1
      obtain ⟨q, hq, he⟩ := ha.2 (6 * 64 + i) (by omega)
      have e10 : (10 : Int32) - lt (6 * 64 + i) = nI (20 - q) := by rw [he]; exact mo_lm q (by omega)
      refine sg_Mo_holds_13 X (fun _ _ _ _ _ _ h => h) (hw_rtz X hr hlk) ?_
      unfold vc_Mo_holds_13
      refine ⟨_, ⟨_, H1.2.1, rfl⟩, _, hw_rx 64 H1.2.2.2.2.2.1 rfl (by decide) (by decide), ?_⟩
      rw [hm]
      refine ⟨fun h => absurd h (nI_ge (by omega) (by omega)), fun _ => ⟨_, ⟨_, H1.2.1, rfl⟩, hw_o_of H1.2.1 rfl rfl, hw_ci_0 (by decide) (by decide) (ct_Mo_literalOf (kc := 64) l g w1 H1 (by omega)) (Nat.zero_le _) (Nat.zero_le _) ?_⟩⟩
      rintro r2 w2 ⟨rfl, rfl⟩
      have H2 := mo_u7 (upd kn1 (20 - q) (vp_nar .boolean (1 : Int32))) H1
      have hK2 : mo_K w _ r := mo_K_u (i := 7) (e := some (ar_b g 21 (upd kn1 (20 - q) (vp_nar .boolean (1 : Int32))))) hK1 (by decide)
      refine ⟨_, hw_wx (20 - q) H1.2.2.2.2.2.2.2.2.2.1 e10 (by omega) (by decide), fun _ => ?_, fun _ => ⟨hw_o_of H2.2.1 rfl rfl, hw_ci_0 (by decide) (by decide) (ct_Mo_literalOf (kc := 64) l g _ H2 (by omega)) (Nat.zero_le _) (Nat.zero_le _) ?_⟩⟩
      · rw [nI_1]
        exact ih (i + 1) true _ _ (by omega) H2 hK2
      rintro r3 w3 ⟨rfl, rfl⟩
      refine ⟨hw_o_of H2.2.1 rfl rfl, hw_ci_0 (by decide) (by decide) (ct_Mo_hasLiteral (kc := 64) l g _ H2 (by omega) hm hj) (Nat.zero_le _) (Nat.zero_le _) ?_⟩
      rintro r4 w4 ⟨rfl, -⟩
      refine ⟨fun _ => ?_, fun _ => ?_⟩
      · rw [nI_1]
        exact ih (i + 1) false _ _ (by omega) H2 hK2
      · rw [nI_1]
        exact ih (i + 1) true _ _ (by omega) H2 hK2
  refine ⟨hw_o_of M rfl rfl, hw_cv_0 (by decide) (by decide) (ct_Mo_forget l g w H0) (Nat.zero_le _) (Nat.zero_le _) ?_⟩
  rintro w1 ⟨kn1, -, H1, hK1⟩
  refine ⟨_, ⟨_, H1.2.1, Nat.le_of_ble_eq_true rfl, rfl⟩, ?_⟩
  exact L13 j 0 false kn1 _ (by omega) (mo_u9 ty wo nx sz ft va cl (nI Lv) hg em (nI h) (nI 0) H1) (mo_K_u hK1 (by decide))
/-- the slots below b are kept -/
def mo_k (b : Nat) (ma ma' lt lt' : Nat → Int32) : Prop := (∀ i, i < b → ma' i = ma i) ∧ ∀ q, q < 6 * b → lt' q = lt q
theorem mo_k_r {b : Nat} {ma lt : Nat → Int32} : mo_k b ma ma lt lt := ⟨fun _ _ => rfl, fun _ _ => rfl⟩
theorem mo_k_t {b : Nat} {ma ma1 ma2 lt lt1 lt2 : Nat → Int32} (h1 : mo_k b ma ma1 lt lt1) (h2 : mo_k b ma1 ma2 lt1 lt2) : mo_k b ma ma2 lt lt2 := ⟨fun i hi => (h2.1 i hi).trans (h1.1 i hi), fun q hq => (h2.2 q hq).trans (h1.2 q hq)⟩
theorem mo_k_c {b c2 j : Nat} {ma lt lt' : Nat → Int32} {x : Int32} (hb : b ≤ c2) (hl : ∀ q, q < 6 * c2 ∨ 6 * c2 + j ≤ q → lt' q = lt q) : mo_k b ma (upd ma c2 x) lt lt' := ⟨fun i hi => pk_un (by omega), fun q hq => hl q (by omega)⟩
set_option maxHeartbeats 4000000 in
set_option maxRecDepth 100000 in
theorem ct_Mo_add (l : Launch) (g : hw_G) (w : hw_H) {r : Nat → Nat} {ty wo nx sz ft va cl hg em pl : Int32} {ch bg en ma lt nu hh kn bf : Nat → Int32} {Lv h : Nat} {x : Int32} (H : mo_I g w r ty wo nx sz ft va cl (nI Lv) hg em (nI h) pl ch bg en ma lt nu hh kn bf) (hLv : Lv ≤ 40) (hh0 : h ≤ 12) (ha : mo_a ma lt) (hem : hw_b em) : hw_Mi l g ym_Mo_add mw_Mo_add (hw_R 6 0 0) [.ref (r 9), .int x] w (fun r0 w' => ∃ (L' : Nat) (hg' em' pl' : Int32) (ma' lt' nu' kn' bf' : Nat → Int32), L' ≤ 40 ∧ hw_b em' ∧ mo_a ma' lt' ∧ mo_k 24 ma ma' lt lt' ∧ mo_I g w' r ty wo nx sz ft va cl (nI L') hg' em' (nI h) pl' ch bg en ma' lt' nu' hh kn' bf' ∧ mo_K w w' r) := by
  refine hw_enteri (r := 0) rfl rfl (by simp [Value.category]) (Nat.le_of_ble_eq_true rfl) ?_
  intro p e s m args below meth c A X hr hlk hnm
  refine sg_Mo_add_0 X (fun _ _ _ _ _ _ h => h) (hw_rti X hr hlk) ?_
  unfold vc_Mo_add_0
  have H0 := H
  obtain ⟨D, M, A0, A1, A2, A3, A4, A5, A6, A7, A8⟩ := H
  obtain ⟨j, hj, hm⟩ := ha.1 64 (by decide)
  have K0 : ∃ (L' : Nat) (hg' em' pl' : Int32) (ma' lt' nu' kn' bf' : Nat → Int32), L' ≤ 40 ∧ hw_b em' ∧ mo_a ma' lt' ∧ mo_k 24 ma ma' lt lt' ∧ mo_I g w r ty wo nx sz ft va cl (nI L') hg' em' (nI h) pl' ch bg en ma' lt' nu' hh kn' bf' ∧ mo_K w w r := ⟨Lv, hg, em, pl, ma, lt, nu, kn, bf, hLv, hem, ha, mo_k_r, H0, mo_K_r⟩
  refine ⟨_, ⟨_, M, rfl⟩, fun _ => ⟨hw_00, K0⟩, fun _ => ⟨_, ⟨_, M, rfl⟩, fun hl4 => ⟨hw_o_of M rfl rfl, hw_ci_0 (by decide) (by decide) (ct_Mo_holds l g w H0 hLv hh0 ha) (Nat.zero_le _) (Nat.zero_le _) ?_⟩, fun _ => ⟨hw_00, K0⟩⟩⟩
  have hl4 : Lv < 40 := (nI_ltI (b := 40) (by omega) (by omega)).mp hl4
  rintro r1 w1 ⟨p1, kn1, bf1, e1, H1, hK1⟩
  refine ⟨fun _ => ⟨_, ⟨_, H1.2.1, rfl⟩, ?_⟩, fun _ => ⟨_, ⟨_, H1.2.1, rfl⟩, hw_00, Lv, hg, em, _, ma, lt, nu, kn1, bf1, hLv, hem, ha, mo_k_r, H1, hK1⟩⟩
  rw [show (24 : Int32) + nI Lv = nI (24 + Lv) from nI_add 24 Lv]
  refine ⟨hw_o_of H1.2.1 rfl rfl, hw_cv_0 (by decide) (by decide) (ct_Mo_copy (c1 := 64) (c2 := 24 + Lv) l g w1 H1 (by decide) (by omega) (by omega) hm hj) (Nat.zero_le _) (Nat.zero_le _) ?_⟩
  rintro w2 ⟨lt2, l1, l2, H2, hK2⟩
  have a2 := mo_a_c ha (by decide) hj l1 l2
  have k2 : mo_k 24 ma (upd ma (24 + Lv) (nI j)) lt lt2 := mo_k_c (by omega) l2
  have H3 := mo_u5 (upd nu Lv x) H2
  have hK3 : mo_K w _ r := mo_K_u (i := 5) (e := some (ar_i g 40 (upd nu Lv x))) (mo_K_t hK1 hK2) (by decide)
  refine ⟨_, ⟨_, H2.2.1, rfl⟩, _, ⟨_, H2.2.1, rfl⟩, _, hw_wr H2.2.2.2.2.2.2.2.1 (by omega) (by decide), _, ⟨_, H3.2.1, rfl⟩, _, ⟨_, H3.2.1, Nat.le_of_ble_eq_true rfl, rfl⟩, _, ⟨_, (va_up_self _ _ _), Nat.le_of_ble_eq_true rfl, rfl⟩, _, ⟨_, (va_up_self _ _ _), rfl⟩, ?_⟩
  rw [bx_uu, nI_1]
  have H4 := fun z : Int32 => mo_u9 ty wo nx sz ft va cl (nI (Lv + 1)) x z (nI h) (nI p1) H3
  have hK4 : ∀ e, mo_K w (va_up _ (r 9) e) r := fun e => mo_K_u hK3 (by decide)
  refine ⟨fun _ => ⟨_, ⟨_, (va_up_self _ _ _), Nat.le_of_ble_eq_true rfl, rfl⟩, Or.inr rfl, hw_00, ?_⟩, fun _ => ⟨_, ⟨_, (va_up_self _ _ _), rfl⟩, _, hw_rx 64 (H4 em).2.2.2.2.2.1 rfl (by decide) (by decide), fun _ => ⟨_, ⟨_, (va_up_self _ _ _), Nat.le_of_ble_eq_true rfl, rfl⟩, Or.inl rfl, hw_00, ?_⟩, fun _ => ⟨_, ⟨_, (va_up_self _ _ _), Nat.le_of_ble_eq_true rfl, rfl⟩, Or.inr rfl, hw_00, ?_⟩⟩⟩
  · rw [bx_uu]
    exact ⟨Lv + 1, x, 1, nI p1, _, lt2, _, kn1, bf1, by omega, Or.inr rfl, a2, k2, H4 1, hK4 _⟩
  · rw [bx_uu]
    exact ⟨Lv + 1, x, 0, nI p1, _, lt2, _, kn1, bf1, by omega, Or.inl rfl, a2, k2, H4 0, hK4 _⟩
  · rw [bx_uu]
    exact ⟨Lv + 1, x, 1, nI p1, _, lt2, _, kn1, bf1, by omega, Or.inr rfl, a2, k2, H4 1, hK4 _⟩
set_option maxHeartbeats 4000000 in
set_option maxRecDepth 100000 in
theorem ct_Mo_delete (l : Launch) (g : hw_G) (w : hw_H) {r : Nat → Nat} {ty wo nx sz ft va cl hg em pl : Int32} {ch bg en ma lt nu hh kn bf : Nat → Int32} {Lv h : Nat} (H : mo_I g w r ty wo nx sz ft va cl (nI Lv) hg em (nI h) pl ch bg en ma lt nu hh kn bf) (hLv : Lv ≤ 40) (hh0 : h ≤ 12) (ha : mo_a ma lt) : hw_Mi l g ym_Mo_delete mw_Mo_delete (hw_R 3 0 0) [.ref (r 9)] w (fun r0 w' => ∃ (L' : Nat) (ma' lt' nu' : Nat → Int32), L' ≤ 40 ∧ mo_a ma' lt' ∧ mo_k 24 ma ma' lt lt' ∧ mo_I g w' r ty wo nx sz ft va cl (nI L') hg em (nI h) pl ch bg en ma' lt' nu' hh kn bf ∧ mo_K w w' r) := by
  refine hw_enteri (r := 3) rfl rfl (by simp [Value.category]) (Nat.le_of_ble_eq_true rfl) ?_
  intro p e s m args below meth c A X hr hlk hnm
  refine sg_Mo_delete_0 X (fun _ _ _ _ _ _ h => h) (hw_rti X hr hlk) ?_
  unfold vc_Mo_delete_0
  have H0 := H
  obtain ⟨D, M, A0, A1, A2, A3, A4, A5, A6, A7, A8⟩ := H
  -- the second walk: the named ones go
  have L83 : (∀ j k : Nat, j < k → k < h → ¬ hh j = hh k) → ∀ (d k1 L1 : Nat) (ma1 lt1 nu1 : Nat → Int32) (w1 : hw_H), k1 + d = h → L1 ≤ 40 → (∀ k, k1 ≤ k → k < h → ∃ i, i < L1 ∧ nu1 i = hh k) → mo_a ma1 lt1 → mo_k 24 ma ma1 lt lt1 → mo_I g w1 r ty wo nx sz ft va cl (nI L1) hg em (nI h) pl ch bg en ma1 lt1 nu1 hh kn bf → mo_K w w1 r → hw_Ji p l e (hw_R 3 0 0) s m args below meth c 4 g A (fun r0 w' => ∃ (L' : Nat) (ma' lt' nu' : Nat → Int32), L' ≤ 40 ∧ mo_a ma' lt' ∧ mo_k 24 ma ma' lt lt' ∧ mo_I g w' r ty wo nx sz ft va cl (nI L') hg em (nI h) pl ch bg en ma' lt' nu' hh kn bf ∧ mo_K w w' r) 0 0 83 [some (.ref (r 9)), some (.int (nI k1)), none, none] [] w1 := by
    intro hds d
    induction d with
    | zero =>
      intro k1 L1 ma1 lt1 nu1 w1 hd hL1 hfd a1 kk1 H1 hK1
      have hi2 : k1 = h := by omega
      subst hi2
      refine sg_Mo_delete_83 X (fun _ _ _ _ _ _ h => h) (hw_rti X hr hlk) ?_
      unfold vc_Mo_delete_83
      exact ⟨_, ⟨_, H1.2.1, rfl⟩, fun _ => ⟨hw_00, L1, ma1, lt1, nu1, hL1, a1, kk1, H1, hK1⟩, fun h => absurd (Int32.le_refl _) h⟩
    | succ d ih =>
      intro k1 L1 ma1 lt1 nu1 w1 hd hL1 hfd a1 kk1 H1 hK1
      refine sg_Mo_delete_83 X (fun _ _ _ _ _ _ h => h) (hw_rti X hr hlk) ?_
      unfold vc_Mo_delete_83
      refine ⟨_, ⟨_, H1.2.1, rfl⟩, fun h => absurd h (nI_ge (by omega) (by omega)), fun _ => ⟨_, ⟨_, H1.2.1, rfl⟩, _, hw_rd H1.2.2.2.2.2.2.2.2.1 (by omega) (by decide), hw_o_of H1.2.1 rfl rfl, hw_ci_0 (by decide) (by decide) (ct_Mo_find l g w1 H1 hL1) (Nat.zero_le _) (Nat.zero_le _) ?_⟩⟩
      rintro r2 w2 ⟨rfl, hcase⟩
      obtain ⟨i0, hi0, hr2, hn0⟩ : ∃ i, i < L1 ∧ r2 = nI i ∧ nu1 i = hh k1 := by
        rcases hcase with ⟨-, z⟩ | z
        · obtain ⟨i, z1, z2⟩ := hfd k1 (Nat.le_refl _) (by omega)
          exact absurd z2 (z i z1)
        · exact z
      subst hr2
      obtain ⟨L2, rfl⟩ : ∃ L2 : Nat, L1 = L2 + 1 := ⟨L1 - 1, by omega⟩
      refine ⟨_, ⟨_, H1.2.1, rfl⟩, _, ⟨_, H1.2.1, Nat.le_of_ble_eq_true rfl, rfl⟩, ?_⟩
      rw [nI_pred]
      have H2 := mo_u9 ty wo nx sz ft va cl (nI L2) hg em (nI h) pl H1
      have hK2 : mo_K w (va_up w2 (r 9) (some (mo_g r ty wo nx sz ft va cl (nI L2) hg em (nI h) pl))) r := mo_K_u hK1 (by decide)
      have L114 : ∀ (d2 j : Nat) (ma2 lt2 nu2 : Nat → Int32) (w3 : hw_H), j + d2 = L2 → i0 ≤ j → (∀ q, q < i0 → nu2 q = nu1 q) → (∀ q, i0 ≤ q → q < j → nu2 q = nu1 (q + 1)) → (∀ q, j ≤ q → nu2 q = nu1 q) → mo_a ma2 lt2 → mo_k 24 ma ma2 lt lt2 → mo_I g w3 r ty wo nx sz ft va cl (nI L2) hg em (nI h) pl ch bg en ma2 lt2 nu2 hh kn bf → mo_K w w3 r → hw_Ji p l e (hw_R 3 0 0) s m args below meth c 4 g A (fun r0 w' => ∃ (L' : Nat) (ma' lt' nu' : Nat → Int32), L' ≤ 40 ∧ mo_a ma' lt' ∧ mo_k 24 ma ma' lt lt' ∧ mo_I g w' r ty wo nx sz ft va cl (nI L') hg em (nI h) pl ch bg en ma' lt' nu' hh kn bf ∧ mo_K w w' r) 0 0 114 [some (.ref (r 9)), some (.int (nI k1)), some (.int (nI i0)), some (.int (nI j))] [] w3 := by
        intro d2
        induction d2 with
        | zero =>
          intro j ma2 lt2 nu2 w3 hj hij n1 n2 n3 a2 kk2 H3 hK3
          have hi2 : j = L2 := by omega
          subst hi2
          refine sg_Mo_delete_114 X (fun _ _ _ _ _ _ h => h) (hw_rti X hr hlk) ?_
          unfold vc_Mo_delete_114
          refine ⟨_, ⟨_, H3.2.1, rfl⟩, fun _ => ?_, fun h => absurd (Int32.le_refl _) h⟩
          rw [nI_1]
          refine ih (k1 + 1) j ma2 lt2 nu2 w3 (by omega) (by omega) (fun k hk hkh => ?_) a2 kk2 H3 hK3
          obtain ⟨i, hi, he⟩ := hfd k (by omega) hkh
          have hne : i ≠ i0 := by
            rintro rfl
            exact hds k1 k (by omega) hkh (hn0.symm.trans he)
          by_cases hii : i < i0
          · exact ⟨i, by omega, (n1 i hii).trans he⟩
          · refine ⟨i - 1, by omega, ?_⟩
            rw [n2 (i - 1) (by omega) (by omega), show i - 1 + 1 = i by omega]; exact he
        | succ d2 ih2 =>
          intro j ma2 lt2 nu2 w3 hj hij n1 n2 n3 a2 kk2 H3 hK3
          obtain ⟨m3, hm3, hm4⟩ := a2.1 (24 + j + 1) (by omega)
          refine sg_Mo_delete_114 X (fun _ _ _ _ _ _ h => h) (hw_rti X hr hlk) ?_
          unfold vc_Mo_delete_114
          rw [show (24 : Int32) + nI j = nI (24 + j) from nI_add 24 j, show nI j + (1 : Int32) = nI (j + 1) from nI_1 j, show nI (24 + j) + (1 : Int32) = nI (24 + j + 1) from nI_1 (24 + j)]
          have H4 := mo_u5 (upd nu2 j (nu2 (j + 1))) H3
          refine ⟨_, ⟨_, H3.2.1, rfl⟩, fun h => absurd h (nI_ge (by omega) (by omega)), fun _ => ⟨_, ⟨_, H3.2.1, rfl⟩, _, ⟨_, H3.2.1, rfl⟩, _, hw_rd H3.2.2.2.2.2.2.2.1 (by omega) (by decide), _, hw_wr H3.2.2.2.2.2.2.2.1 (by omega) (by decide), hw_o_of H4.2.1 rfl rfl, hw_cv_0 (by decide) (by decide) (ct_Mo_copy (c1 := 24 + j + 1) (c2 := 24 + j) l g _ H4 (by omega) (by omega) (by omega) hm4 hm3) (Nat.zero_le _) (Nat.zero_le _) ?_⟩⟩
          rintro w5 ⟨lt5, l1, l2, H5, hK5⟩
          refine ih2 (j + 1) _ lt5 _ w5 (by omega) (by omega) (fun q hq => ?_) (fun q hq1 hq2 => ?_) (fun q hq => ?_) (mo_a_c a2 (by omega) hm3 l1 l2) (mo_k_t kk2 (mo_k_c (by omega) l2)) H5 (mo_K_t (mo_K_u hK3 (by decide)) hK5)
          · rw [pk_un (by omega)]; exact n1 q hq
          · by_cases hqj : q = j
            · subst hqj; rw [pk_us]; exact n3 (q + 1) (by omega)
            · rw [pk_un hqj]; exact n2 q hq1 (by omega)
          · rw [pk_un (by omega)]; exact n3 q (by omega)
      exact L114 (L2 - i0) i0 ma1 lt1 nu1 _ (by omega) (Nat.le_refl _) (fun _ _ => rfl) (fun q z1 z2 => absurd z2 (by omega)) (fun _ _ => rfl) a1 kk1 H2 hK2
  -- the first walk: all are found, none twice
  have L2 : ∀ (d k1 : Nat), k1 + d = h → (∀ k, k < k1 → ∃ i, i < Lv ∧ nu i = hh k) → (∀ j k : Nat, j < k → k < k1 → ¬ hh j = hh k) → hw_Ji p l e (hw_R 3 0 0) s m args below meth c 4 g A (fun r0 w' => ∃ (L' : Nat) (ma' lt' nu' : Nat → Int32), L' ≤ 40 ∧ mo_a ma' lt' ∧ mo_k 24 ma ma' lt lt' ∧ mo_I g w' r ty wo nx sz ft va cl (nI L') hg em (nI h) pl ch bg en ma' lt' nu' hh kn bf ∧ mo_K w w' r) 0 0 2 [some (.ref (r 9)), some (.int (nI k1)), none, none] [] w := by
    intro d
    induction d with
    | zero =>
      intro k1 hd hfd hds
      have hi2 : k1 = h := by omega
      subst hi2
      refine sg_Mo_delete_2 X (fun _ _ _ _ _ _ h => h) (hw_rti X hr hlk) ?_
      unfold vc_Mo_delete_2
      refine ⟨_, ⟨_, M, rfl⟩, fun _ => ?_, fun h => absurd (Int32.le_refl _) h⟩
      exact L83 hds k1 0 Lv ma lt nu w (by omega) hLv (fun k _ hk => hfd k hk) ha mo_k_r H0 mo_K_r
    | succ d ih =>
      intro k1 hd hfd hds
      have L31 : ∀ (d2 j : Nat) (b : Bool), j + d2 = k1 → (b = false → (∃ i, i < Lv ∧ nu i = hh k1) ∧ ∀ j', j' < j → ¬ hh j' = hh k1) → hw_Ji p l e (hw_R 3 0 0) s m args below meth c 4 g A (fun r0 w' => ∃ (L' : Nat) (ma' lt' nu' : Nat → Int32), L' ≤ 40 ∧ mo_a ma' lt' ∧ mo_k 24 ma ma' lt lt' ∧ mo_I g w' r ty wo nx sz ft va cl (nI L') hg em (nI h) pl ch bg en ma' lt' nu' hh kn bf ∧ mo_K w w' r) 0 0 31 [some (.ref (r 9)), some (.int (nI k1)), some (.int (hw_z b)), some (.int (nI j))] [] w := by
        intro d2
        induction d2 with
        | zero =>
          intro j b hj hb
          have hi2 : j = k1 := by omega
          subst hi2
          refine sg_Mo_delete_31 X (fun _ _ _ _ _ _ h => h) (hw_rti X hr hlk) ?_
          unfold vc_Mo_delete_31
          refine ⟨fun _ => ⟨fun h2 => ?_, fun _ => ⟨hw_00, Lv, ma, lt, nu, hLv, ha, mo_k_r, H0, mo_K_r⟩⟩, fun h => absurd (Int32.le_refl _) h⟩
          obtain ⟨z1, z2⟩ := hb ((hw_z_eq _).mp h2)
          rw [nI_1]
          refine ih (j + 1) (by omega) (fun k hk => ?_) (fun j2 k hjk hk => ?_)
          · by_cases hkj : k = j
            · subst hkj; exact z1
            · exact hfd k (by omega)
          · by_cases hkj : k = j
            · subst hkj; exact z2 j2 hjk
            · exact hds j2 k hjk (by omega)
        | succ d2 ih2 =>
          intro j b hj hb
          refine sg_Mo_delete_31 X (fun _ _ _ _ _ _ h => h) (hw_rti X hr hlk) ?_
          unfold vc_Mo_delete_31
          refine ⟨fun h => absurd h (nI_ge (by omega) (by omega)), fun _ => ⟨fun h2 => ?_, fun h2 => ⟨_, ⟨_, M, rfl⟩, _, hw_rd A6 (by omega) (by decide), _, ⟨_, M, rfl⟩, _, hw_rd A6 (by omega) (by decide), fun h3 => ?_, fun h3 => ?_⟩⟩⟩
          · rw [nI_1]
            exact ih2 (j + 1) true (by omega) (fun z => by cases z)
          · obtain ⟨z1, z2⟩ := hb ((hw_z_eq _).mp h2)
            rw [nI_1]
            refine ih2 (j + 1) false (by omega) (fun _ => ⟨z1, fun j' hj' => ?_⟩)
            by_cases hjj : j' = j
            · subst hjj; exact h3
            · exact z2 j' (by omega)
          · rw [nI_1]
            exact ih2 (j + 1) true (by omega) (fun z => by cases z)
      refine sg_Mo_delete_2 X (fun _ _ _ _ _ _ h => h) (hw_rti X hr hlk) ?_
      unfold vc_Mo_delete_2
      refine ⟨_, ⟨_, M, rfl⟩, fun h => absurd h (nI_ge (by omega) (by omega)), fun _ => ⟨_, ⟨_, M, rfl⟩, _, hw_rd A6 (by omega) (by decide), hw_o_of M rfl rfl, hw_ci_0 (by decide) (by decide) (ct_Mo_find l g w H0 hLv) (Nat.zero_le _) (Nat.zero_le _) ?_⟩⟩
      rintro r2 w2 ⟨rfl, hcase⟩
      refine ⟨fun h2 => ?_, fun h2 => L31 k1 0 true (by omega) (fun z => by cases z)⟩
      refine L31 k1 0 false (by omega) (fun _ => ⟨?_, fun j' z => absurd z (Nat.not_lt_zero _)⟩)
      rcases hcase with ⟨z1, -⟩ | ⟨i, z1, z2, z3⟩
      · rw [z1] at h2; exact absurd h2 (by decide)
      · exact ⟨i, z1, z3⟩
  exact L2 h 0 (by omega) (fun k z => absurd z (Nat.not_lt_zero _)) (fun j k _ z => absurd z (Nat.not_lt_zero _))
