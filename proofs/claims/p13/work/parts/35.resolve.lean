theorem sx_r2_t {u : sx_T} {x : Int32} (h : x = 0) : sx_r2 u x = (sx_fc u, sx_sz u, sx_vv u, true, sx_sa u, true, sx_sh u, sx_kn u, sx_ft u, sx_fr u, sx_ts u, sx_fk u, sx_lv u, sx_fh u, sx_hc u) := by
  unfold sx_r2 sx_fin
  rw [if_pos (Or.inl h), decide_eq_true h]
theorem sx_r2_f {u : sx_T} {x : Int32} (h : ¬ x = 0) (h2 : sx_lv u = 0 ∨ ¬ sx_sz u < 2072) : sx_r2 u x = (sx_fc u, sx_sz u, sx_vv u, true, sx_sa u, false, sx_sh u, sx_kn u, sx_ft u, sx_fr u, sx_ts u, sx_fk u, sx_lv u, sx_fh u, sx_hc u) := by
  unfold sx_r2 sx_fin
  rw [if_pos (Or.inr h2), decide_eq_false h]
theorem sx_r2_a {u : sx_T} {x : Int32} (h : ¬ x = 0) (h1 : ¬ sx_lv u = 0) (h2 : sx_sz u < 2072) : sx_r2 u x = sx_add (sx_jb u x) x := by
  unfold sx_r2
  rw [if_neg (by rintro (z | z | z); exact h z; exact h1 z; exact z h2)]
set_option maxHeartbeats 4000000 in
set_option maxRecDepth 100000 in
theorem ct_Se_resolve (l : Launch) (g : hw_G) (w : hw_H) {q : Nat → Nat} {t : sx_T} {j : Nat} (hI : sx_I g w q t) (ht : sx_ts t ≤ 10) (hlv : sx_lv t ≤ 10) (hz : sx_sz t ≤ 2072) (hj : j < 2072) (hfr : ∀ i, i < 10 → sx_fr t i = -1 ∨ sx_rk (sx_fr t i)) : hw_Mv l g ym_Se_resolve mw_Se_resolve (hw_R 4 0 0) [.ref (q 0), .int (nI j)] w (fun w' => sx_I g w' q (sx_rs t j) ∧ sx_K w w' q) := by
  refine hw_enterv (r := 1) rfl rfl (by simp [Value.category]) (Nat.le_of_ble_eq_true rfl) ?_
  intro p e s m args below meth c A X hr hlk hnm
  refine sg_Se_resolve_0 X (fun _ _ _ _ _ _ h => h) (hw_rtv X hr hlk) ?_
  unfold vc_Se_resolve_0
  refine ⟨hw_o_of hI.2.1 rfl rfl, hw_ci_0 (by decide) (by decide) (ct_Se_learn l g w hI ht hlv hj hfr) (Nat.zero_le _) (Nat.zero_le _) ?_⟩
  rintro x w1 ⟨hx, i1, k1⟩
  have lk := sx_lr_k (sx_ts t) (cx_op (sx_fc t j)) (sx_l0 t j) hfr ht (show 1 ≤ 11 by decide) (fun k hk => by
    have hk : k < 1 := hk
    have hk0 : k = 0 := by omega
    subst hk0
    exact ⟨j, hj, (show upd (sx_fh t) 0 (nI j) 0 = nI j from pk_us)⟩)
  have hrs : sx_rs t j = sx_r1 (sx_lr (sx_ts t) (cx_op (sx_fc t j)) (sx_l0 t j)).2 x := by rw [hx]; rfl
  generalize (sx_lr (sx_ts t) (cx_op (sx_fc t j)) (sx_l0 t j)).2 = t1 at i1 lk hrs
  clear hx
  have hz1 : sx_sz t1 ≤ 2072 := by rw [lk.2.1]; exact hz
  have hl1 : sx_lv t1 ≤ 10 := by rw [lk.2.2.1]; exact hlv
  have N26 : ∀ w2, sx_I g w2 q t1 → sx_K w w2 q → (sx_sh t1 && sx_sl t1 (sx_hc t1) (cx_op x)) = false → hw_Jv p l e (hw_R 4 0 0) s m args below meth c 3 g A (fun w' => sx_I g w' q (sx_rs t j) ∧ sx_K w w' q) 0 0 26 [some (.ref (q 0)), some (.int (nI j)), some (.int x)] [.ref (q 0)] w2 := by
    intro w2 i2 k2 hb
    have hres : sx_rs t j = sx_r2 (sx_sh1 t1 false) x := by rw [hrs]; unfold sx_r1; rw [hb]
    obtain ⟨u, hu⟩ : ∃ u : sx_T, u = sx_sh1 t1 false := ⟨_, rfl⟩
    have iu : sx_I g (va_up w2 (q 0) (some (sx_o q u))) q u := by rw [hu]; exact sx_u0 (t' := sx_sh1 t1 false) i2 rfl rfl rfl rfl rfl
    have ku : sx_K w (va_up w2 (q 0) (some (sx_o q u))) q := sx_K_u k2 (by decide)
    have hlu : sx_lv u ≤ 10 := by rw [hu]; exact hl1
    have hzu : sx_sz u ≤ 2072 := by rw [hu]; exact hz1
    have e0 : (nI (sx_lv u) = 0) ↔ sx_lv u = 0 := nI_eq (b := 0) (by omega) (by omega)
    refine sg_Se_resolve_26 X (fun _ _ _ _ _ _ h => h) (hw_rtv X hr hlk) ?_
    unfold vc_Se_resolve_26
    refine ⟨va_up w2 (q 0) (some (sx_o q u)), ⟨_, i2.2.1, Nat.le_of_ble_eq_true rfl, (by rw [hu]; rfl)⟩, Or.inl rfl, ?_⟩
    rw [← hu] at hres
    refine ⟨fun hx => ⟨fun z => absurd hx z, fun _ => ⟨_, ⟨_, iu.2.1, Nat.le_of_ble_eq_true rfl, rfl⟩, Or.inr rfl, _, ⟨_, (va_up_self _ _ _), Nat.le_of_ble_eq_true rfl, rfl⟩, Or.inr rfl, hw_00, (by rw [bx_uu, hres, sx_r2_t hx]; exact sx_u0 (t' := (sx_fc u, sx_sz u, sx_vv u, true, sx_sa u, true, sx_sh u, sx_kn u, sx_ft u, sx_fr u, sx_ts u, sx_fk u, sx_lv u, sx_fh u, sx_hc u)) iu rfl rfl rfl rfl rfl), sx_K_u (sx_K_u ku (by decide)) (by decide)⟩⟩, fun hx => ⟨_, ⟨_, iu.2.1, rfl⟩, fun hl => ⟨fun _ => ⟨_, ⟨_, iu.2.1, Nat.le_of_ble_eq_true rfl, rfl⟩, Or.inl rfl, _, ⟨_, (va_up_self _ _ _), Nat.le_of_ble_eq_true rfl, rfl⟩, Or.inr rfl, hw_00, (by rw [bx_uu, hres, sx_r2_f hx (Or.inl (e0.mp hl))]; exact sx_u0 (t' := (sx_fc u, sx_sz u, sx_vv u, true, sx_sa u, false, sx_sh u, sx_kn u, sx_ft u, sx_fr u, sx_ts u, sx_fk u, sx_lv u, sx_fh u, sx_hc u)) iu rfl rfl rfl rfl rfl), sx_K_u (sx_K_u ku (by decide)) (by decide)⟩, fun z => absurd z hx⟩, fun hl => ⟨_, ⟨_, iu.2.1, rfl⟩, _, ⟨_, iu.2.1, rfl⟩, _, ⟨0, 2072, _, by decide, iu.2.2.1, rfl⟩, fun hs => ?_, fun hs => ⟨fun _ => ⟨_, ⟨_, iu.2.1, Nat.le_of_ble_eq_true rfl, rfl⟩, Or.inl rfl, _, ⟨_, (va_up_self _ _ _), Nat.le_of_ble_eq_true rfl, rfl⟩, Or.inr rfl, hw_00, (by rw [bx_uu, hres, sx_r2_f hx (Or.inr (fun z => hs (nI_lt (b := 2072) z (by omega))))]; exact sx_u0 (t' := (sx_fc u, sx_sz u, sx_vv u, true, sx_sa u, false, sx_sh u, sx_kn u, sx_ft u, sx_fr u, sx_ts u, sx_fk u, sx_lv u, sx_fh u, sx_hc u)) iu rfl rfl rfl rfl rfl), sx_K_u (sx_K_u ku (by decide)) (by decide)⟩, fun z => absurd z hx⟩⟩⟩⟩
    have hl : ¬ sx_lv u = 0 := fun z => hl (e0.mpr z)
    have hs : sx_sz u < 2072 := (nI_ltI (b := 2072) (by omega) (by omega)).mp hs
    refine ⟨hw_o_of iu.2.1 rfl rfl, hw_cv_0 (by decide) (by decide) (ct_Se_jumpBack (x := x) l g _ iu hlu hl) (Nat.zero_le _) (Nat.zero_le _) ?_⟩
    rintro w9 ⟨i9, k9⟩
    have jk := sx_jb_k u x
    rw [sx_r2_a hx hl hs] at hres
    generalize sx_jb u x = u9 at i9 jk hres
    have hs9 : sx_sz u9 < 2072 := by rw [jk.2]; exact hs
    have i10 := sx_u1 (upd (sx_fc u9) (sx_sz u9) x) i9
    have i11 := sx_u0 (t' := sx_add u9 x) i10 rfl rfl rfl rfl rfl
    refine ⟨_, ⟨_, i9.2.1, rfl⟩, _, ⟨_, i9.2.1, rfl⟩, _, ⟨_, _, i9.2.2.1, vp_in_nI hs9 (by omega), rfl⟩, ?_⟩
    rw [nI_clamp (by omega)]
    refine ⟨_, ⟨_, i10.2.1, rfl⟩, _, ⟨_, i10.2.1, Nat.le_of_ble_eq_true rfl, rfl⟩, hw_00, ?_, sx_K_u (sx_K_u (sx_K_t ku k9) (by decide)) (by decide)⟩
    rw [nI_1, hres]
    exact i11
  refine ⟨_, ⟨_, i1.2.1, rfl⟩, fun hs0 => N26 w1 i1 k1 ?_, fun hs0 => ⟨hw_o_of i1.2.1 rfl rfl, hw_ci_0 (by decide) (by decide) (ct_Se_stepHolds (x := x) l g _ i1 lk.2.2.2.1 lk.2.2.2.2) (Nat.zero_le _) (Nat.zero_le _) ?_⟩⟩
  · rw [(hw_z_eq _).mp hs0]; rfl
  rintro r w2 ⟨rfl, rfl⟩
  have hs1 := (hw_z_ne _).mp hs0
  refine ⟨fun h9 => N26 _ i1 k1 ?_, fun h9 => ?_⟩
  · rw [(hw_z_eq _).mp h9]; exact Bool.and_false _
  have h9' := (hw_z_ne _).mp h9
  have hres : sx_rs t j = sx_r2 (sx_sh1 t1 true) x := by rw [hrs]; unfold sx_r1; rw [hs1, h9']; rfl
  obtain ⟨u, hu⟩ : ∃ u : sx_T, u = sx_sh1 t1 true := ⟨_, rfl⟩
  have iu : sx_I g (va_up w2 (q 0) (some (sx_o q u))) q u := by rw [hu]; exact sx_u0 (t' := sx_sh1 t1 true) i1 rfl rfl rfl rfl rfl
  have ku : sx_K w (va_up w2 (q 0) (some (sx_o q u))) q := sx_K_u k1 (by decide)
  have hlu : sx_lv u ≤ 10 := by rw [hu]; exact hl1
  have hzu : sx_sz u ≤ 2072 := by rw [hu]; exact hz1
  have e0 : (nI (sx_lv u) = 0) ↔ sx_lv u = 0 := nI_eq (b := 0) (by omega) (by omega)
  refine ⟨va_up w2 (q 0) (some (sx_o q u)), ⟨_, i1.2.1, Nat.le_of_ble_eq_true rfl, (by rw [hu]; rfl)⟩, Or.inr rfl, ?_⟩
  rw [← hu] at hres
  refine ⟨fun hx => ⟨fun z => absurd hx z, fun _ => ⟨_, ⟨_, iu.2.1, Nat.le_of_ble_eq_true rfl, rfl⟩, Or.inr rfl, _, ⟨_, (va_up_self _ _ _), Nat.le_of_ble_eq_true rfl, rfl⟩, Or.inr rfl, hw_00, (by rw [bx_uu, hres, sx_r2_t hx]; exact sx_u0 (t' := (sx_fc u, sx_sz u, sx_vv u, true, sx_sa u, true, sx_sh u, sx_kn u, sx_ft u, sx_fr u, sx_ts u, sx_fk u, sx_lv u, sx_fh u, sx_hc u)) iu rfl rfl rfl rfl rfl), sx_K_u (sx_K_u ku (by decide)) (by decide)⟩⟩, fun hx => ⟨_, ⟨_, iu.2.1, rfl⟩, fun hl => ⟨fun _ => ⟨_, ⟨_, iu.2.1, Nat.le_of_ble_eq_true rfl, rfl⟩, Or.inl rfl, _, ⟨_, (va_up_self _ _ _), Nat.le_of_ble_eq_true rfl, rfl⟩, Or.inr rfl, hw_00, (by rw [bx_uu, hres, sx_r2_f hx (Or.inl (e0.mp hl))]; exact sx_u0 (t' := (sx_fc u, sx_sz u, sx_vv u, true, sx_sa u, false, sx_sh u, sx_kn u, sx_ft u, sx_fr u, sx_ts u, sx_fk u, sx_lv u, sx_fh u, sx_hc u)) iu rfl rfl rfl rfl rfl), sx_K_u (sx_K_u ku (by decide)) (by decide)⟩, fun z => absurd z hx⟩, fun hl => ⟨_, ⟨_, iu.2.1, rfl⟩, _, ⟨_, iu.2.1, rfl⟩, _, ⟨0, 2072, _, by decide, iu.2.2.1, rfl⟩, fun hs => ?_, fun hs => ⟨fun _ => ⟨_, ⟨_, iu.2.1, Nat.le_of_ble_eq_true rfl, rfl⟩, Or.inl rfl, _, ⟨_, (va_up_self _ _ _), Nat.le_of_ble_eq_true rfl, rfl⟩, Or.inr rfl, hw_00, (by rw [bx_uu, hres, sx_r2_f hx (Or.inr (fun z => hs (nI_lt (b := 2072) z (by omega))))]; exact sx_u0 (t' := (sx_fc u, sx_sz u, sx_vv u, true, sx_sa u, false, sx_sh u, sx_kn u, sx_ft u, sx_fr u, sx_ts u, sx_fk u, sx_lv u, sx_fh u, sx_hc u)) iu rfl rfl rfl rfl rfl), sx_K_u (sx_K_u ku (by decide)) (by decide)⟩, fun z => absurd z hx⟩⟩⟩⟩
  have hl : ¬ sx_lv u = 0 := fun z => hl (e0.mpr z)
  have hs : sx_sz u < 2072 := (nI_ltI (b := 2072) (by omega) (by omega)).mp hs
  refine ⟨hw_o_of iu.2.1 rfl rfl, hw_cv_0 (by decide) (by decide) (ct_Se_jumpBack (x := x) l g _ iu hlu hl) (Nat.zero_le _) (Nat.zero_le _) ?_⟩
  rintro w9 ⟨i9, k9⟩
  have jk := sx_jb_k u x
  rw [sx_r2_a hx hl hs] at hres
  generalize sx_jb u x = u9 at i9 jk hres
  have hs9 : sx_sz u9 < 2072 := by rw [jk.2]; exact hs
  have i10 := sx_u1 (upd (sx_fc u9) (sx_sz u9) x) i9
  have i11 := sx_u0 (t' := sx_add u9 x) i10 rfl rfl rfl rfl rfl
  refine ⟨_, ⟨_, i9.2.1, rfl⟩, _, ⟨_, i9.2.1, rfl⟩, _, ⟨_, _, i9.2.2.1, vp_in_nI hs9 (by omega), rfl⟩, ?_⟩
  rw [nI_clamp (by omega)]
  refine ⟨_, ⟨_, i10.2.1, rfl⟩, _, ⟨_, i10.2.1, Nat.le_of_ble_eq_true rfl, rfl⟩, hw_00, ?_, sx_K_u (sx_K_u (sx_K_t ku k9) (by decide)) (by decide)⟩
  rw [nI_1, hres]
  exact i11
