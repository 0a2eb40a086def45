theorem sx_dv_b (k : Int32) : ∀ (d v : Nat), sx_dv k d v ≤ v + d := by
  intro d
  induction d with
  | zero => intro v; exact Nat.le_refl _
  | succ d ih =>
    intro v
    rw [sx_dv.eq_2]
    have := ih (v + 1)
    split
    · omega
    · omega
theorem sx_ok_de {t : sx_T} (h : sx_ok t) : sx_ok (sx_de t) := by
  have hb := sx_dv_b (sx_kn t) (sx_vv t - 1) 1
  obtain ⟨h1, h2, h3, h4, h5, h6, h7⟩ := h
  unfold sx_de
  by_cases h9 : sx_lv t < 10
  · rw [if_pos h9]
    refine sx_ok_as ⟨h1, h2, h3, h4, (show sx_lv t + 1 ≤ 10 from h9), fun i hi => ?_, h7⟩ (cx_P_bit _ (by omega)) (Or.inl rfl)
    show cx_P (upd (sx_fk t) (sx_lv t + 1) (sx_kn t) i) ≤ 10
    by_cases hk : i = sx_lv t + 1
    · subst hk; rw [pk_us]; omega
    · rw [pk_un hk]; exact h6 i hi
  · rw [if_neg h9]; exact ⟨h1, h2, h3, h4, h5, h6, h7⟩
theorem sx_ok_lr : ∀ (i : Nat) (b : Int32) (t : sx_T), sx_ok t → sx_ok (sx_lr i b t).2 := by
  intro i
  induction i with
  | zero => intro b t h; exact h
  | succ i ih =>
    intro b t h
    rw [sx_lr.eq_2]
    by_cases h1 : (b &&& sx_ft t i) = 0
    · rw [if_pos h1]; exact ih b t h
    rw [if_neg h1]
    by_cases h2 : sx_ke t i b = true
    · rw [if_pos h2]; exact ih b t h
    rw [if_neg h2]
    by_cases h3 : sx_hc t < 11
    · rw [if_pos h3]; exact ih _ (sx_fc t, sx_sz t, sx_vv t, sx_fi t, sx_sa t, sx_re t, sx_sh t, sx_kn t, sx_ft t, sx_fr t, sx_ts t, sx_fk t, sx_lv t, upd (sx_fh t) (sx_hc t) (sx_fr t i), sx_hc t + 1) h
    · rw [if_neg h3]; exact ih b t h
theorem sx_jt_b (t : sx_T) (o : Int32) : ∀ (d j : Nat), sx_jt t o d j ≤ j + d := by
  intro d
  induction d with
  | zero => intro v; exact Nat.le_refl _
  | succ d ih =>
    intro v
    rw [sx_jt.eq_2]
    have := ih (v + 1)
    split
    · omega
    · omega
theorem sx_ok_jx {t : sx_T} {j : Nat} (h : sx_ok t) (hj : j < 10) : sx_ok (sx_jx t j) := by
  obtain ⟨h1, h2, h3, h4, h5, h6, h7⟩ := h
  have h8 := h6 (j + 1) (by omega)
  exact ⟨h1, h2, h8, Nat.le_refl _, (show j ≤ 10 by omega), h6, h7⟩
theorem sx_ok_rs {t : sx_T} {j : Nat} (h : sx_ok t) : sx_ok (sx_rs t j) := by
  unfold sx_rs
  have h1 := sx_ok_lr (sx_ts t) (cx_op (sx_fc t j)) (sx_l0 t j) h
  generalize (sx_lr (sx_ts t) (cx_op (sx_fc t j)) (sx_l0 t j)).1 = x
  generalize (sx_lr (sx_ts t) (cx_op (sx_fc t j)) (sx_l0 t j)).2 = t1 at h1 ⊢
  unfold sx_r1
  have h2 : sx_ok (sx_sh1 t1 (sx_sh t1 && sx_sl t1 (sx_hc t1) (cx_op x))) := h1
  generalize sx_sh1 t1 (sx_sh t1 && sx_sl t1 (sx_hc t1) (cx_op x)) = u at h2 ⊢
  unfold sx_r2
  by_cases h3 : x = 0 ∨ sx_lv u = 0 ∨ ¬ sx_sz u < 2072
  · rw [if_pos h3]; exact h2
  · rw [if_neg h3]
    have hs : sx_sz u < 2072 := by
      rcases Nat.lt_or_ge (sx_sz u) 2072 with z | z
      · exact z
      · exact absurd (Or.inr (Or.inr (by omega))) h3
    have hl := h2.2.2.2.2.1
    have hj := sx_jt_b u (cx_op x &&& sx_fk u (sx_lv u)) (sx_lv u - 1) 0
    unfold sx_jb
    generalize sx_jt u (cx_op x &&& sx_fk u (sx_lv u)) (sx_lv u - 1) 0 = j9 at hj ⊢
    have h4 := sx_ok_jx h2 (j := j9) (by omega)
    obtain ⟨q1, q2, q3, q4, q5, q6, q7⟩ := h4
    exact ⟨(show sx_sz u + 1 ≤ 2072 from hs), q2, q3, q4, q5, q6, q7⟩
