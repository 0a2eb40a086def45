def sx_jt (t : sx_T) (o : Int32) : Nat → Nat → Nat
  | 0, j => j
  | d + 1, j => if (o &&& (sx_fk t (j + 1) ^^^ (-1 : Int32))) = 0 then j else sx_jt t o d (j + 1)
def sx_jw (t : sx_T) (j n0 : Nat) : sx_T := (sx_fc t, sx_sz t, sx_vv t, sx_fi t, sx_sa t, sx_re t, sx_sh t, sx_fk t (j + 1), sx_ft t, sx_fr t, n0, sx_fk t, j, sx_fh t, sx_hc t)
def sx_jx (t : sx_T) (j : Nat) : sx_T := sx_jw t j (pc_n 32 (cx_U (sx_fk t (j + 1))))
def sx_jb (t : sx_T) (x : Int32) : sx_T := sx_jx t (sx_jt t (cx_op x &&& sx_fk t (sx_lv t)) (sx_lv t - 1) 0)
set_option maxHeartbeats 4000000 in
set_option maxRecDepth 100000 in
theorem ct_Se_jumpBack (l : Launch) (g : hw_G) (w : hw_H) {q : Nat → Nat} {t : sx_T} {x : Int32} (hI : sx_I g w q t) (hlv : sx_lv t ≤ 10) (hl0 : ¬ sx_lv t = 0) : hw_Mv l g ym_Se_jumpBack mw_Se_jumpBack (hw_R 2 0 0) [.ref (q 0), .int x] w (fun w' => sx_I g w' q (sx_jb t x) ∧ sx_K w w' q) := by
  refine hw_enterv (r := 2) rfl rfl (by simp [Value.category]) (Nat.le_of_ble_eq_true rfl) ?_
  intro p e s m args below meth c A X hr hlk hnm
  refine sg_Se_jumpBack_0 X (fun _ _ _ _ _ _ h => h) (hw_rtv X hr hlk) ?_
  unfold vc_Se_jumpBack_0
  have hI0 := hI
  obtain ⟨D, h0, h1, h2, h3, h4, h5⟩ := hI0
  refine hw_ci_0 (by decide) (by decide) (ct_Co_opposites l g _) (Nat.zero_le _) (Nat.zero_le _) ?_
  rintro r w1 ⟨rfl, rfl⟩
  refine ⟨_, ⟨_, h0, rfl⟩, _, ⟨_, h0, rfl⟩, _, ⟨_, _, h4, vp_in_nI (by omega) (by omega), rfl⟩, fun y hy => ?_⟩
  rw [nI_clamp (by omega)] at hy
  have L1 : ∀ (d j : Nat), j + d = sx_lv t - 1 → sx_jt t y (sx_lv t - 1) 0 = sx_jt t y d j → hw_Jv p l e (hw_R 2 0 0) s m args below meth c 4 g A (fun w' => sx_I g w' q (sx_jb t x) ∧ sx_K w1 w' q) 0 0 17 [some (.ref (q 0)), some (.int x), some (.int y), some (.int (nI j))] [] w1 := by
    intro d
    induction d with
    | zero =>
      intro j hj hjt
      have hjt : sx_jt t y (sx_lv t - 1) 0 = j := hjt
      subst hy
      have hin : vp_in (nI (j + 1)) 11 := vp_in_nI (by omega) (by omega)
      refine sg_Se_jumpBack_17 X (fun _ _ _ _ _ _ h => h) (hw_rtv X hr hlk) ?_
      unfold vc_Se_jumpBack_17
      rw [nI_1]
      refine ⟨_, ⟨_, h0, rfl⟩, fun _ => ⟨_, ⟨_, h0, rfl⟩, _, ⟨_, _, h4, hin, rfl⟩, _, ⟨_, h0, Nat.le_of_ble_eq_true rfl, rfl⟩, _, ⟨_, (va_up_self _ _ _), rfl⟩, hw_ci_0 (by decide) (by decide) (ct_In_bitCount l g _) (Nat.zero_le _) (Nat.zero_le _) ?_⟩, fun h => absurd ?_ h⟩
      · rintro r w3 ⟨rfl, rfl⟩
        obtain ⟨n0, hn0⟩ : ∃ n0 : Nat, n0 = pc_n 32 (cx_U (sx_fk t (j + 1))) := ⟨_, rfl⟩
        rw [nI_clamp (by omega), cx_bc_nI, ← hn0]
        have i1 := sx_u0 (t' := (sx_fc t, sx_sz t, sx_vv t, sx_fi t, sx_sa t, sx_re t, sx_sh t, sx_fk t (j + 1), sx_ft t, sx_fr t, sx_ts t, sx_fk t, sx_lv t, sx_fh t, sx_hc t)) hI rfl rfl rfl rfl rfl
        have i2 := sx_u0 (t' := (sx_fc t, sx_sz t, sx_vv t, sx_fi t, sx_sa t, sx_re t, sx_sh t, sx_fk t (j + 1), sx_ft t, sx_fr t, n0, sx_fk t, sx_lv t, sx_fh t, sx_hc t)) i1 rfl rfl rfl rfl rfl
        have i3 := sx_u0 (t' := sx_jw t j n0) i2 rfl rfl rfl rfl rfl
        refine ⟨_, ⟨_, i1.2.1, Nat.le_of_ble_eq_true rfl, rfl⟩, _, ⟨_, i2.2.1, Nat.le_of_ble_eq_true rfl, rfl⟩, hw_00, ?_, sx_K_u (sx_K_u (sx_K_u sx_K_r (by decide)) (by decide)) (by decide)⟩
        unfold sx_jb
        rw [hjt]
        unfold sx_jx
        rw [← hn0]
        exact i3
      · have := pk_sub (a := sx_lv t) (b := 1) (by omega)
        show nI (sx_lv t) - nI 1 ≤ nI j
        rw [pk_sub (by omega)]
        exact nI_le (by omega) (by omega)
    | succ d ih =>
      intro j hj hjt
      rw [sx_jt.eq_2] at hjt
      have hin : vp_in (nI (j + 1)) 11 := vp_in_nI (by omega) (by omega)
      refine sg_Se_jumpBack_17 X (fun _ _ _ _ _ _ h => h) (hw_rtv X hr hlk) ?_
      unfold vc_Se_jumpBack_17
      rw [nI_1]
      refine ⟨_, ⟨_, h0, rfl⟩, fun h => ?_, fun _ => ⟨_, ⟨_, h0, rfl⟩, _, ⟨_, _, h4, hin, rfl⟩, ?_⟩⟩
      · have h : nI (sx_lv t) - nI 1 ≤ nI j := h
        rw [pk_sub (by omega)] at h
        exact absurd h (nI_ge (by omega) (by omega))
      rw [nI_clamp (by omega)]
      refine ⟨fun hb => ?_, fun hb => ?_⟩
      · rw [if_pos hb] at hjt
        subst hy
        refine ⟨_, ⟨_, h0, rfl⟩, _, ⟨_, _, h4, hin, rfl⟩, _, ⟨_, h0, Nat.le_of_ble_eq_true rfl, rfl⟩, _, ⟨_, (va_up_self _ _ _), rfl⟩, hw_ci_0 (by decide) (by decide) (ct_In_bitCount l g _) (Nat.zero_le _) (Nat.zero_le _) ?_⟩
        rintro r w3 ⟨rfl, rfl⟩
        obtain ⟨n0, hn0⟩ : ∃ n0 : Nat, n0 = pc_n 32 (cx_U (sx_fk t (j + 1))) := ⟨_, rfl⟩
        rw [nI_clamp (by omega), cx_bc_nI, ← hn0]
        have i1 := sx_u0 (t' := (sx_fc t, sx_sz t, sx_vv t, sx_fi t, sx_sa t, sx_re t, sx_sh t, sx_fk t (j + 1), sx_ft t, sx_fr t, sx_ts t, sx_fk t, sx_lv t, sx_fh t, sx_hc t)) hI rfl rfl rfl rfl rfl
        have i2 := sx_u0 (t' := (sx_fc t, sx_sz t, sx_vv t, sx_fi t, sx_sa t, sx_re t, sx_sh t, sx_fk t (j + 1), sx_ft t, sx_fr t, n0, sx_fk t, sx_lv t, sx_fh t, sx_hc t)) i1 rfl rfl rfl rfl rfl
        have i3 := sx_u0 (t' := sx_jw t j n0) i2 rfl rfl rfl rfl rfl
        refine ⟨_, ⟨_, i1.2.1, Nat.le_of_ble_eq_true rfl, rfl⟩, _, ⟨_, i2.2.1, Nat.le_of_ble_eq_true rfl, rfl⟩, hw_00, ?_, sx_K_u (sx_K_u (sx_K_u sx_K_r (by decide)) (by decide)) (by decide)⟩
        unfold sx_jb
        rw [hjt]
        unfold sx_jx
        rw [← hn0]
        exact i3
      · rw [if_neg hb] at hjt
        exact ih (j + 1) (by omega) hjt
  exact L1 (sx_lv t - 1) 0 (by omega) rfl
