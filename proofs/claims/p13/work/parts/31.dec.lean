def sx_dv (k : Int32) : Nat → Nat → Nat
  | 0, v => v
  | d + 1, v => if (k &&& (cl_bit (nI v) ||| cl_bit (-(nI v)))) = 0 then v else sx_dv k d (v + 1)
def sx_de (t : sx_T) : sx_T := if sx_lv t < 10 then sx_as (sx_fc t, sx_sz t, sx_vv t, sx_fi t, sx_sa t, sx_re t, sx_sh t, sx_kn t, sx_ft t, sx_fr t, sx_ts t, upd (sx_fk t) (sx_lv t + 1) (sx_kn t), sx_lv t + 1, sx_fh t, sx_hc t) (cl_bit (-(nI (sx_dv (sx_kn t) (sx_vv t - 1) 1)))) (-1) else t
set_option maxHeartbeats 4000000 in
set_option maxRecDepth 100000 in
theorem ct_Se_decide (l : Launch) (g : hw_G) (w : hw_H) {q : Nat → Nat} {t : sx_T} (hI : sx_I g w q t) (ht : sx_ts t ≤ 10) (hv : sx_vv t ≤ 10) (hlv : sx_lv t ≤ 10) : hw_Mv l g ym_Se_decide mw_Se_decide (hw_R 2 0 0) [.ref (q 0)] w (fun w' => sx_I g w' q (sx_de t) ∧ sx_K w w' q) := by
  refine hw_enterv (r := 1) rfl rfl (by simp [Value.category]) (Nat.le_of_ble_eq_true rfl) ?_
  intro p e s m args below meth c A X hr hlk hnm
  refine sg_Se_decide_0 X (fun _ _ _ _ _ _ h => h) (hw_rtv X hr hlk) ?_
  unfold vc_Se_decide_0
  have h0 := hI.2.1
  have L1 : ∀ (d v : Nat), d = sx_vv t - v → v ≤ 10 ∨ v = 1 → sx_dv (sx_kn t) (sx_vv t - 1) 1 = sx_dv (sx_kn t) d v → hw_Jv p l e (hw_R 2 0 0) s m args below meth c 2 g A (fun w' => sx_I g w' q (sx_de t) ∧ sx_K w w' q) 0 0 2 [some (.ref (q 0)), some (.int (nI v))] [] w := by
    intro d
    induction d with
    | zero =>
      intro v hd hv1 hdv
      have hdv : sx_dv (sx_kn t) (sx_vv t - 1) 1 = v := hdv
      refine sg_Se_decide_2 X (fun _ _ _ _ _ _ h => h) (hw_rtv X hr hlk) ?_
      unfold vc_Se_decide_2
      refine ⟨_, ⟨_, h0, rfl⟩, fun _ => ⟨_, ⟨_, h0, rfl⟩, fun h10 => ⟨hw_00, ?_, sx_K_r⟩, fun h10 => ⟨_, ⟨_, h0, rfl⟩, _, ⟨_, h0, Nat.le_of_ble_eq_true rfl, rfl⟩, ?_⟩⟩, fun h => absurd (nI_le (by omega) (by omega)) h⟩
      · have h9 : ¬ sx_lv t < 10 := fun z => absurd h10 (nI_ge (b := 10) z (by omega))
        unfold sx_de; rw [if_neg h9]; exact hI
      · have h9 : sx_lv t < 10 := by
          rcases Nat.lt_or_ge (sx_lv t) 10 with z | z
          · exact z
          · exact absurd (nI_le (a := 10) z (by omega)) h10
        have i1 := sx_u0 (t' := (sx_fc t, sx_sz t, sx_vv t, sx_fi t, sx_sa t, sx_re t, sx_sh t, sx_kn t, sx_ft t, sx_fr t, sx_ts t, sx_fk t, sx_lv t + 1, sx_fh t, sx_hc t)) hI rfl rfl rfl rfl rfl
        have i2 := sx_u4 (upd (sx_fk t) (sx_lv t + 1) (sx_kn t)) i1
        rw [nI_1]
        refine ⟨_, ⟨_, i1.2.1, rfl⟩, _, ⟨_, i1.2.1, rfl⟩, _, ⟨_, i1.2.1, rfl⟩, _, ⟨_, _, i1.2.2.2.2.2.1, vp_in_nI (by show sx_lv t + 1 < _; omega) (by omega), rfl⟩, ?_⟩
        rw [nI_clamp (by show sx_lv t + 1 < _; omega)]
        refine hw_ci_0 (by decide) (by decide) (ct_Co_bit l g _) (Nat.zero_le _) (Nat.zero_le _) ?_
        rintro r w3 ⟨rfl, rfl⟩
        refine ⟨hw_o_of i2.2.1 rfl rfl, hw_cv_0 (by decide) (by decide) (ct_Se_assume l g _ i2 ht) (Nat.zero_le _) (Nat.zero_le _) ?_⟩
        rintro w5 ⟨i5, k5⟩
        refine ⟨hw_00, ?_, sx_K_t (sx_K_u (sx_K_u sx_K_r (by decide)) (by decide)) k5⟩
        unfold sx_de; rw [if_pos h9, hdv]; exact i5
    | succ d ih =>
      intro v hd hv1 hdv
      rw [sx_dv.eq_2] at hdv
      refine sg_Se_decide_2 X (fun _ _ _ _ _ _ h => h) (hw_rtv X hr hlk) ?_
      unfold vc_Se_decide_2
      refine ⟨_, ⟨_, h0, rfl⟩, fun h => absurd h (nI_ge (by omega) (by omega)), fun _ => ⟨_, ⟨_, h0, rfl⟩, hw_ci_0 (by decide) (by decide) (ct_Co_bit l g _) (Nat.zero_le _) (Nat.zero_le _) ?_⟩⟩
      rintro r w1 ⟨rfl, rfl⟩
      refine hw_ci_0 (by decide) (by decide) (ct_Co_bit l g _) (Nat.zero_le _) (Nat.zero_le _) ?_
      rintro r w2 ⟨rfl, rfl⟩
      refine ⟨fun hb => ?_, fun hb => ?_⟩
      · rw [if_pos hb] at hdv
        refine ⟨_, ⟨_, h0, rfl⟩, fun h10 => ⟨hw_00, ?_, sx_K_r⟩, fun h10 => ⟨_, ⟨_, h0, rfl⟩, _, ⟨_, h0, Nat.le_of_ble_eq_true rfl, rfl⟩, ?_⟩⟩
        · have h9 : ¬ sx_lv t < 10 := fun z => absurd h10 (nI_ge (b := 10) z (by omega))
          unfold sx_de; rw [if_neg h9]; exact hI
        · have h9 : sx_lv t < 10 := by
            rcases Nat.lt_or_ge (sx_lv t) 10 with z | z
            · exact z
            · exact absurd (nI_le (a := 10) z (by omega)) h10
          have i1 := sx_u0 (t' := (sx_fc t, sx_sz t, sx_vv t, sx_fi t, sx_sa t, sx_re t, sx_sh t, sx_kn t, sx_ft t, sx_fr t, sx_ts t, sx_fk t, sx_lv t + 1, sx_fh t, sx_hc t)) hI rfl rfl rfl rfl rfl
          have i2 := sx_u4 (upd (sx_fk t) (sx_lv t + 1) (sx_kn t)) i1
          rw [nI_1]
          refine ⟨_, ⟨_, i1.2.1, rfl⟩, _, ⟨_, i1.2.1, rfl⟩, _, ⟨_, i1.2.1, rfl⟩, _, ⟨_, _, i1.2.2.2.2.2.1, vp_in_nI (by show sx_lv t + 1 < _; omega) (by omega), rfl⟩, ?_⟩
          rw [nI_clamp (by show sx_lv t + 1 < _; omega)]
          refine hw_ci_0 (by decide) (by decide) (ct_Co_bit l g _) (Nat.zero_le _) (Nat.zero_le _) ?_
          rintro r w3 ⟨rfl, rfl⟩
          refine ⟨hw_o_of i2.2.1 rfl rfl, hw_cv_0 (by decide) (by decide) (ct_Se_assume l g _ i2 ht) (Nat.zero_le _) (Nat.zero_le _) ?_⟩
          rintro w5 ⟨i5, k5⟩
          refine ⟨hw_00, ?_, sx_K_t (sx_K_u (sx_K_u sx_K_r (by decide)) (by decide)) k5⟩
          unfold sx_de; rw [if_pos h9, hdv]; exact i5
      · rw [if_neg hb] at hdv
        rw [nI_1]
        exact ih (v + 1) (by omega) (by omega) hdv
  exact L1 (sx_vv t - 1) 1 rfl (by omega) rfl
def sx_ke (t : sx_T) (i : Nat) (b : Int32) : Bool := if sx_fr t i = -1 then true else if sx_lv t = 0 then false else if ¬ (sx_fk t 1 &&& sx_ft t i) = 0 then false else if ¬ (sx_fk t (sx_lv t) &&& sx_ft t i) = 0 then true else decide ((b &&& (sx_fk t (sx_lv t) ^^^ (-1 : Int32))) = sx_ft t i)
set_option maxHeartbeats 4000000 in
set_option maxRecDepth 100000 in
theorem ct_Se_isKept (l : Launch) (g : hw_G) (w : hw_H) {q : Nat → Nat} {t : sx_T} {i : Nat} {b : Int32} (hI : sx_I g w q t) (hlv : sx_lv t ≤ 10) (hi : i < 10) : hw_Mi l g ym_Se_isKept mw_Se_isKept (hw_R 1 0 0) [.ref (q 0), .int (nI i), .int b] w (fun r w' => r = hw_z (sx_ke t i b) ∧ w' = w) := by
  refine hw_enteri (r := 1) rfl rfl (by simp [Value.category]) (Nat.le_of_ble_eq_true rfl) ?_
  intro p e s m args below meth c A X hr hlk hnm
  refine sg_Se_isKept_0 X (fun _ _ _ _ _ _ h => h) (hw_rtz X hr hlk) ?_
  unfold vc_Se_isKept_0
  obtain ⟨D, h0, h1, h2, h3, h4, h5⟩ := hI
  have hin : vp_in (nI i) 10 := vp_in_nI hi (by omega)
  have hlv' : vp_in (nI (sx_lv t)) 11 := vp_in_nI (by omega) (by omega)
  have e0 : (nI (sx_lv t) = 0) ↔ sx_lv t = 0 := nI_eq (b := 0) (by omega) (by omega)
  have e1 : vp_in (1 : Int32) 11 := show vp_in (nI 1) 11 from vp_in_nI (by decide) (by decide)
  refine ⟨_, ⟨_, h0, rfl⟩, _, ⟨_, _, h3, hin, rfl⟩, fun hr1 => ?_, fun hr1 => ?_⟩
  · rw [nI_clamp (by omega)] at hr1
    refine ⟨_, ⟨_, h0, rfl⟩, fun hl => ?_, fun hl => ?_⟩
    · rw [e0] at hl
      exact ⟨hw_00, Or.inl rfl, by unfold sx_ke; rw [if_neg hr1, if_pos hl]; rfl, rfl⟩
    rw [e0] at hl
    refine ⟨_, ⟨_, h0, rfl⟩, _, ⟨_, _, h4, e1, rfl⟩, _, ⟨_, h0, rfl⟩, _, ⟨_, _, h2, hin, rfl⟩, fun hb => ?_, fun hb => ?_⟩
    · rw [nI_clamp (by omega)] at hb
      refine ⟨_, ⟨_, h0, rfl⟩, _, ⟨_, h0, rfl⟩, _, ⟨_, _, h4, hlv', rfl⟩, fun y hy => ⟨_, ⟨_, h0, rfl⟩, _, ⟨_, h0, rfl⟩, _, ⟨_, _, h4, hlv', rfl⟩, _, ⟨_, h0, rfl⟩, _, ⟨_, _, h2, hin, rfl⟩, fun hc => ?_, fun hc => ⟨_, ⟨_, h0, rfl⟩, _, ⟨_, _, h2, hin, rfl⟩, fun hd => ?_, fun hd => ?_⟩⟩⟩
      · rw [nI_clamp (by omega), nI_clamp (by omega)] at hc
        exact ⟨hw_00, Or.inr rfl, hw_z_t (by unfold sx_ke; rw [if_neg hr1, if_neg hl, if_neg (fun z => z hb), if_pos hc]), rfl⟩
      · rw [nI_clamp (by omega), nI_clamp (by omega)] at hc
        rw [nI_clamp (by omega)] at hd hy
        exact ⟨hw_00, Or.inl rfl, hw_z_f (by unfold sx_ke; rw [if_neg hr1, if_neg hl, if_neg (fun z => z hb), if_neg (fun z => z hc), ← hy]; exact decide_eq_false hd), rfl⟩
      · rw [nI_clamp (by omega), nI_clamp (by omega)] at hc
        rw [nI_clamp (by omega)] at hd hy
        exact ⟨hw_00, Or.inr rfl, hw_z_t (by unfold sx_ke; rw [if_neg hr1, if_neg hl, if_neg (fun z => z hb), if_neg (fun z => z hc), ← hy]; exact decide_eq_true hd), rfl⟩
    · rw [nI_clamp (by omega)] at hb
      have hb : ¬ (sx_fk t 1 &&& sx_ft t i) = 0 := hb
      exact ⟨hw_00, Or.inl rfl, hw_z_f (by unfold sx_ke; rw [if_neg hr1, if_neg hl, if_pos hb]), rfl⟩
  · rw [nI_clamp (by omega)] at hr1
    exact ⟨hw_00, Or.inr rfl, hw_z_t (by unfold sx_ke; rw [if_pos hr1]), rfl⟩
def sx_sl (t : sx_T) : Nat → Int32 → Bool
  | 0, _ => false
  | i + 1, a => if 0 ≤ cx_fo (sx_fc t (sx_fh t i).toNatClampNeg) a then sx_sl t i (cx_fo (sx_fc t (sx_fh t i).toNatClampNeg) a) else decide (cx_fo (sx_fc t (sx_fh t i).toNatClampNeg) a = -1)
def sx_rk (x : Int32) : Prop := ∃ r : Nat, r < 2072 ∧ x = nI r
set_option maxHeartbeats 4000000 in
set_option maxRecDepth 100000 in
theorem ct_Se_stepHolds (l : Launch) (g : hw_G) (w : hw_H) {q : Nat → Nat} {t : sx_T} {x : Int32} (hI : sx_I g w q t) (hc : sx_hc t ≤ 11) (hr1 : ∀ i, i < sx_hc t → sx_rk (sx_fh t i)) : hw_Mi l g ym_Se_stepHolds mw_Se_stepHolds (hw_R 3 0 0) [.ref (q 0), .int x] w (fun r w' => r = hw_z (sx_sl t (sx_hc t) (cx_op x)) ∧ w' = w) := by
  refine hw_enteri (r := 3) rfl rfl (by simp [Value.category]) (Nat.le_of_ble_eq_true rfl) ?_
  intro p e s m args below meth c A X hr hlk hnm
  refine sg_Se_stepHolds_0 X (fun _ _ _ _ _ _ h => h) (hw_rtz X hr hlk) ?_
  unfold vc_Se_stepHolds_0
  obtain ⟨D, h0, h1, h2, h3, h4, h5⟩ := hI
  refine hw_ci_0 (by decide) (by decide) (ct_Co_opposites l g _) (Nat.zero_le _) (Nat.zero_le _) ?_
  rintro r w1 ⟨rfl, rfl⟩
  refine ⟨_, ⟨_, h0, rfl⟩, fun y hy => ?_⟩
  have L1 : ∀ (i : Nat) (a : Int32), i ≤ sx_hc t → sx_sl t (sx_hc t) (cx_op x) = sx_sl t i a → hw_Ji p l e (hw_R 3 0 0) s m args below meth c 5 g A (fun r w' => r = hw_z (sx_sl t (sx_hc t) (cx_op x)) ∧ w' = w1) 0 0 12 [some (.ref (q 0)), some (.int x), some (.int a), some (.int (tx_m i)), none] [] w1 := by
    intro i
    induction i with
    | zero =>
      intro a hi hb
      refine sg_Se_stepHolds_12 X (fun _ _ _ _ _ _ h => h) (hw_rtz X hr hlk) ?_
      unfold vc_Se_stepHolds_12
      exact ⟨fun _ => ⟨hw_00, Or.inl rfl, by rw [hb]; rfl, rfl⟩, fun h => absurd tx_m0 h⟩
    | succ i ih =>
      intro a hi hb
      obtain ⟨r1, hr2, hr3⟩ := hr1 i (by omega)
      refine sg_Se_stepHolds_12 X (fun _ _ _ _ _ _ h => h) (hw_rtz X hr hlk) ?_
      unfold vc_Se_stepHolds_12
      rw [tx_ms]
      refine ⟨fun h => absurd h (nI_pos (by omega)), fun _ => ⟨_, ⟨_, h0, rfl⟩, _, ⟨_, h0, rfl⟩, _, ⟨_, _, h5, vp_in_nI (by omega) (by omega), rfl⟩, ?_⟩⟩
      rw [nI_clamp (by omega)]
      refine ⟨_, ⟨_, _, h1, (by rw [hr3]; exact vp_in_nI hr2 (by omega)), rfl⟩, hw_ci_0 (by decide) (by decide) (ct_Co_follow l g _) (Nat.zero_le _) (Nat.zero_le _) ?_⟩
      rintro r w2 ⟨rfl, rfl⟩
      rw [sx_sl.eq_2] at hb
      refine ⟨fun h => ?_, fun h => ⟨fun h2 => ⟨hw_00, Or.inl rfl, ?_, rfl⟩, fun h2 => ⟨hw_00, Or.inr rfl, ?_, rfl⟩⟩⟩
      · rw [if_pos h] at hb
        rw [tx_mp]
        exact ih _ (by omega) hb
      · rw [if_neg h] at hb
        rw [hb]; exact hw_z_f (decide_eq_false h2)
      · rw [if_neg h] at hb
        rw [hb]; exact hw_z_t (decide_eq_true h2)
  subst hy
  exact L1 (sx_hc t) (cx_op x) (Nat.le_refl _) rfl
