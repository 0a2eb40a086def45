theorem cx_bc_nI (x : Int32) : cx_bc x = nI (pc_n 32 (cx_U x)) := by
  have h := cx_bc_eq x
  have hl : pc_n 32 (cx_U x) < 4294967296 := by rw [← h]; exact cx_U_lt _
  have h2 : cx_U (nI (pc_n 32 (cx_U x))) = pc_n 32 (cx_U x) := by
    show (BitVec.ofNat 32 (pc_n 32 (cx_U x))).toNat = _
    rw [BitVec.toNat_ofNat]
    exact Nat.mod_eq_of_lt hl
  have h3 : (cx_bc x).toBitVec = (nI (pc_n 32 (cx_U x))).toBitVec := BitVec.eq_of_toNat_eq (h.trans h2.symm)
  exact Int32.toBitVec_inj.mp h3
theorem sx_ke_r {t : sx_T} {i : Nat} {b : Int32} (h : sx_ke t i b = false) : ¬ sx_fr t i = -1 := fun z => by
  unfold sx_ke at h
  rw [if_pos z] at h
  cases h
def sx_lr : Nat → Int32 → sx_T → Int32 × sx_T
  | 0, b, t => (cx_op b, t)
  | i + 1, b, t => if (b &&& sx_ft t i) = 0 then sx_lr i b t else if sx_ke t i b = true then sx_lr i b t else if sx_hc t < 11 then sx_lr i ((b &&& (sx_ft t i ^^^ (-1 : Int32))) ||| cx_op (sx_fc t (sx_fr t i).toNatClampNeg &&& (sx_ft t i ^^^ (-1 : Int32)))) (sx_fc t, sx_sz t, sx_vv t, sx_fi t, sx_sa t, sx_re t, sx_sh t, sx_kn t, sx_ft t, sx_fr t, sx_ts t, sx_fk t, sx_lv t, upd (sx_fh t) (sx_hc t) (sx_fr t i), sx_hc t + 1) else sx_lr i b t
def sx_l0 (t : sx_T) (j : Nat) : sx_T := (sx_fc t, sx_sz t, sx_vv t, sx_fi t, sx_sa t, sx_re t, sx_sh t, sx_kn t, sx_ft t, sx_fr t, sx_ts t, sx_fk t, sx_lv t, upd (sx_fh t) 0 (nI j), 1)
set_option maxHeartbeats 4000000 in
set_option maxRecDepth 100000 in
theorem ct_Se_learn (l : Launch) (g : hw_G) (w : hw_H) {q : Nat → Nat} {t : sx_T} {j : Nat} (hI : sx_I g w q t) (ht : sx_ts t ≤ 10) (hlv : sx_lv t ≤ 10) (hj : j < 2072) (hfr : ∀ i, i < 10 → sx_fr t i = -1 ∨ sx_rk (sx_fr t i)) : hw_Mi l g ym_Se_learn mw_Se_learn (hw_R 2 0 0) [.ref (q 0), .int (nI j)] w (fun r w' => r = (sx_lr (sx_ts t) (cx_op (sx_fc t j)) (sx_l0 t j)).1 ∧ sx_I g w' q (sx_lr (sx_ts t) (cx_op (sx_fc t j)) (sx_l0 t j)).2 ∧ sx_K w w' q) := by
  refine hw_enteri (r := 3) rfl rfl (by simp [Value.category]) (Nat.le_of_ble_eq_true rfl) ?_
  intro p e s m args below meth c A X hr hlk hnm
  refine sg_Se_learn_0 X (fun _ _ _ _ _ _ h => h) (hw_rti X hr hlk) ?_
  unfold vc_Se_learn_0
  generalize hR : sx_lr (sx_ts t) (cx_op (sx_fc t j)) (sx_l0 t j) = RES
  have L1 : ∀ (i : Nat) (b : Int32) (t1 : sx_T) (w1 : hw_H), i ≤ 10 → sx_I g w1 q t1 → sx_K w w1 q → sx_hc t1 ≤ 11 → sx_fr t1 = sx_fr t → sx_lv t1 ≤ 10 → sx_lr i b t1 = RES → hw_Ji p l e (hw_R 2 0 0) s m args below meth c 5 g A (fun r w' => r = RES.1 ∧ sx_I g w' q RES.2 ∧ sx_K w w' q) 0 0 29 [some (.ref (q 0)), some (.int (nI j)), some (.int b), some (.int (tx_m i)), none] [] w1 := by
    intro i
    induction i with
    | zero =>
      intro b t1 w1 hi h1 hk hh hf hl hres
      have hres : (cx_op b, t1) = RES := hres
      refine sg_Se_learn_29 X (fun _ _ _ _ _ _ h => h) (hw_rti X hr hlk) ?_
      unfold vc_Se_learn_29
      refine ⟨fun _ => hw_ci_0 (by decide) (by decide) (ct_Co_opposites l g _) (Nat.zero_le _) (Nat.zero_le _) ?_, fun h => absurd tx_m0 h⟩
      rintro r w2 ⟨rfl, rfl⟩
      rw [← hres]
      exact ⟨hw_00, rfl, h1, hk⟩
    | succ i ih =>
      intro b t1 w1 hi h1 hk hh hf hl hres
      rw [sx_lr.eq_2] at hres
      have h0 := h1.2.1
      have hin : vp_in (nI i) 10 := vp_in_nI (by omega) (by omega)
      refine sg_Se_learn_29 X (fun _ _ _ _ _ _ h => h) (hw_rti X hr hlk) ?_
      unfold vc_Se_learn_29
      rw [tx_ms, tx_mp]
      refine ⟨fun h => absurd h (nI_pos (by omega)), fun _ => ⟨_, ⟨_, h0, rfl⟩, _, ⟨_, _, h1.2.2.2.1, hin, rfl⟩, ?_⟩⟩
      rw [nI_clamp (by omega)]
      refine ⟨fun hb => ?_, fun hb => ⟨hw_o_of h0 rfl rfl, hw_ci_0 (by decide) (by decide) (ct_Se_isKept l g _ h1 hl (by omega)) (Nat.zero_le _) (Nat.zero_le _) ?_⟩⟩
      · rw [if_pos hb] at hres
        exact ih b t1 w1 (by omega) h1 hk hh hf hl hres
      rintro r w2 ⟨rfl, rfl⟩
      rw [if_neg hb] at hres
      refine ⟨fun hke => ?_, fun hke => ⟨_, ⟨_, h0, rfl⟩, _, ⟨_, h0, rfl⟩, _, ⟨0, 11, _, by decide, h1.2.2.2.2.2.2, rfl⟩, fun h11 => ?_, fun h11 => ?_⟩⟩
      · rw [hw_z_ne] at hke
        rw [if_pos hke] at hres
        exact ih b t1 _ (by omega) h1 hk hh hf hl hres
      · rw [hw_z_eq] at hke
        rw [if_neg (by simp [hke])] at hres
        have h12 : sx_hc t1 < 11 := (nI_ltI (b := 11) (by omega) (by omega)).mp h11
        rw [if_pos h12] at hres
        have hr2 : sx_rk (sx_fr t1 i) := by
          rcases hfr i (by omega) with z | z
          · exact absurd (by rw [hf]; exact z) (sx_ke_r hke)
          · rw [hf]; exact z
        obtain ⟨r1, hr3, hr4⟩ := hr2
        have i1 := sx_u5 (upd (sx_fh t1) (sx_hc t1) (sx_fr t1 i)) h1
        have i2 := sx_u0 (t' := (sx_fc t1, sx_sz t1, sx_vv t1, sx_fi t1, sx_sa t1, sx_re t1, sx_sh t1, sx_kn t1, sx_ft t1, sx_fr t1, sx_ts t1, sx_fk t1, sx_lv t1, upd (sx_fh t1) (sx_hc t1) (sx_fr t1 i), sx_hc t1 + 1)) i1 rfl rfl rfl rfl rfl
        refine ⟨_, ⟨_, h0, rfl⟩, _, ⟨_, _, h1.2.2.2.2.1, hin, rfl⟩, ?_⟩
        rw [nI_clamp (by omega)]
        refine ⟨_, ⟨_, h0, rfl⟩, _, ⟨_, h0, rfl⟩, _, ⟨_, _, h1.2.2.2.2.2.2, vp_in_nI h12 (by omega), rfl⟩, ?_⟩
        rw [nI_clamp (by omega)]
        refine ⟨_, ⟨_, i1.2.1, rfl⟩, _, ⟨_, i1.2.1, Nat.le_of_ble_eq_true rfl, rfl⟩, ?_⟩
        rw [nI_1]
        refine ⟨_, ⟨_, i2.2.1, rfl⟩, _, ⟨_, _, i2.2.2.2.1, hin, rfl⟩, _, ⟨_, i2.2.1, rfl⟩, _, ⟨_, _, i2.2.2.1, (by rw [hr4]; exact vp_in_nI hr3 (by omega)), rfl⟩, _, ⟨_, i2.2.1, rfl⟩, _, ⟨_, _, i2.2.2.2.1, hin, rfl⟩, ?_⟩
        rw [nI_clamp (by omega)]
        refine hw_ci_0 (by decide) (by decide) (ct_Co_opposites l g _) (Nat.zero_le _) (Nat.zero_le _) ?_
        rintro r w3 ⟨rfl, rfl⟩
        intro y hy
        subst hy
        exact ih _ _ _ (by omega) i2 (sx_K_u (sx_K_u hk (by decide)) (by decide)) (show sx_hc t1 + 1 ≤ 11 from h12) hf hl hres
      · rw [hw_z_eq] at hke
        rw [if_neg (by simp [hke])] at hres
        have h12 : ¬ sx_hc t1 < 11 := fun z => h11 (nI_lt (b := 11) z (by omega))
        rw [if_neg h12] at hres
        exact ih b t1 _ (by omega) h1 hk hh hf hl hres
  obtain ⟨D, h0, h1, h2, h3, h4, h5⟩ := hI
  have hI : sx_I g w q t := ⟨D, h0, h1, h2, h3, h4, h5⟩
  have i1 := sx_u5 (upd (sx_fh t) 0 (nI j)) hI
  have i2 := sx_u0 (t' := sx_l0 t j) i1 rfl rfl rfl rfl rfl
  refine ⟨_, ⟨_, h0, rfl⟩, _, ⟨_, _, h5, (show vp_in (nI 0) 11 from vp_in_nI (by decide) (by decide)), rfl⟩, _, ⟨_, i1.2.1, Nat.le_of_ble_eq_true rfl, rfl⟩, _, ⟨_, i2.2.1, rfl⟩, _, ⟨_, _, i2.2.2.1, vp_in_nI hj (by omega), rfl⟩, ?_⟩
  rw [nI_clamp (by omega)]
  refine hw_ci_0 (by decide) (by decide) (ct_Co_opposites l g _) (Nat.zero_le _) (Nat.zero_le _) ?_
  rintro r w3 ⟨rfl, rfl⟩
  refine ⟨_, ⟨_, i2.2.1, rfl⟩, fun y hy => ?_⟩
  subst hy
  exact L1 (sx_ts t) _ _ _ ht i2 (sx_K_u (sx_K_u sx_K_r (by decide)) (by decide)) (show 1 ≤ 11 by decide) rfl hlv hR
