theorem sx_lr_k : ∀ (i : Nat) (b : Int32) (t : sx_T), (∀ k, k < 10 → sx_fr t k = -1 ∨ sx_rk (sx_fr t k)) → i ≤ 10 → sx_hc t ≤ 11 → (∀ k, k < sx_hc t → sx_rk (sx_fh t k)) → sx_fc (sx_lr i b t).2 = sx_fc t ∧ sx_sz (sx_lr i b t).2 = sx_sz t ∧ sx_lv (sx_lr i b t).2 = sx_lv t ∧ sx_hc (sx_lr i b t).2 ≤ 11 ∧ ∀ k, k < sx_hc (sx_lr i b t).2 → sx_rk (sx_fh (sx_lr i b t).2 k) := by
  intro i
  induction i with
  | zero => intro b t hf hi hc hh; exact ⟨rfl, rfl, rfl, hc, hh⟩
  | succ i ih =>
    intro b t hf hi hc hh
    rw [sx_lr.eq_2]
    by_cases h1 : (b &&& sx_ft t i) = 0
    · rw [if_pos h1]; exact ih b t hf (by omega) hc hh
    rw [if_neg h1]
    by_cases h2 : sx_ke t i b = true
    · rw [if_pos h2]; exact ih b t hf (by omega) hc hh
    rw [if_neg h2]
    by_cases h3 : sx_hc t < 11
    · rw [if_pos h3]
      have hr : sx_rk (sx_fr t i) := by
        rcases hf i (by omega) with z | z
        · exact absurd z (sx_ke_r (by cases h : sx_ke t i b with | true => exact absurd h h2 | false => rfl))
        · exact z
      refine ih _ (sx_fc t, sx_sz t, sx_vv t, sx_fi t, sx_sa t, sx_re t, sx_sh t, sx_kn t, sx_ft t, sx_fr t, sx_ts t, sx_fk t, sx_lv t, upd (sx_fh t) (sx_hc t) (sx_fr t i), sx_hc t + 1) hf (by omega) (show sx_hc t + 1 ≤ 11 from h3) ?_
      intro k hk
      have hk : k < sx_hc t + 1 := hk
      show sx_rk (upd (sx_fh t) (sx_hc t) (sx_fr t i) k)
      by_cases hkk : k = sx_hc t
      · subst hkk; rw [pk_us]; exact hr
      · rw [pk_un hkk]; exact hh k (by omega)
    · rw [if_neg h3]; exact ih b t hf (by omega) hc hh
def sx_sh1 (u : sx_T) (b : Bool) : sx_T := (sx_fc u, sx_sz u, sx_vv u, sx_fi u, sx_sa u, sx_re u, b, sx_kn u, sx_ft u, sx_fr u, sx_ts u, sx_fk u, sx_lv u, sx_fh u, sx_hc u)
def sx_fin (u : sx_T) (x : Int32) : sx_T := (sx_fc u, sx_sz u, sx_vv u, true, sx_sa u, decide (x = 0), sx_sh u, sx_kn u, sx_ft u, sx_fr u, sx_ts u, sx_fk u, sx_lv u, sx_fh u, sx_hc u)
def sx_add (u : sx_T) (x : Int32) : sx_T := (upd (sx_fc u) (sx_sz u) x, sx_sz u + 1, sx_vv u, sx_fi u, sx_sa u, sx_re u, sx_sh u, sx_kn u, sx_ft u, sx_fr u, sx_ts u, sx_fk u, sx_lv u, sx_fh u, sx_hc u)
/-- what is done with what was learned -/
def sx_r2 (u : sx_T) (x : Int32) : sx_T := if x = 0 ∨ sx_lv u = 0 ∨ ¬ sx_sz u < 2072 then sx_fin u x else sx_add (sx_jb u x) x
def sx_r1 (u : sx_T) (x : Int32) : sx_T := sx_r2 (sx_sh1 u (sx_sh u && sx_sl u (sx_hc u) (cx_op x))) x
def sx_rs (t : sx_T) (j : Nat) : sx_T := sx_r1 (sx_lr (sx_ts t) (cx_op (sx_fc t j)) (sx_l0 t j)).2 (sx_lr (sx_ts t) (cx_op (sx_fc t j)) (sx_l0 t j)).1
theorem sx_jb_k (u : sx_T) (x : Int32) : sx_fc (sx_jb u x) = sx_fc u ∧ sx_sz (sx_jb u x) = sx_sz u := ⟨rfl, rfl⟩
