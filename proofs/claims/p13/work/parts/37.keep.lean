def sx_ok (t : sx_T) : Prop := sx_sz t ≤ 2072 ∧ sx_vv t ≤ 10 ∧ sx_ts t ≤ 10 ∧ cx_P (sx_kn t) ≤ sx_ts t ∧ sx_lv t ≤ 10 ∧ (∀ i, i < 11 → cx_P (sx_fk t i) ≤ 10) ∧ (∀ i, i < 10 → sx_fr t i = -1 ∨ sx_rk (sx_fr t i))
theorem sx_ok_as {t : sx_T} {x r : Int32} (h : sx_ok t) (hx : cx_P x ≤ 1) (hr : r = -1 ∨ sx_rk r) : sx_ok (sx_as t x r) := by
  obtain ⟨h1, h2, h3, h4, h5, h6, h7⟩ := h
  unfold sx_as
  by_cases h9 : sx_ts t < 10
  · rw [if_pos h9]
    have h8 := cx_P_or (sx_kn t) x
    refine ⟨h1, h2, (show sx_ts t + 1 ≤ 10 from h9), (show cx_P (sx_kn t ||| x) ≤ sx_ts t + 1 by omega), h5, h6, fun i hi => ?_⟩
    show upd (sx_fr t) (sx_ts t) r i = -1 ∨ sx_rk (upd (sx_fr t) (sx_ts t) r i)
    by_cases hk : i = sx_ts t
    · subst hk; rw [pk_us]; exact hr
    · rw [pk_un hk]; exact h7 i hi
  · rw [if_neg h9]; exact ⟨h1, h2, h3, h4, h5, h6, h7⟩
theorem cx_fo_1 {a b : Int32} (h1 : ¬ cx_fo a b = -1) (h2 : ¬ cx_fo a b = -2) : cx_P (cx_fo a b &&& (b ^^^ (-1 : Int32))) ≤ 1 := by
  unfold cx_fo at h1 h2 ⊢
  by_cases e : cx_un a b = 0
  · rw [if_pos e] at h1; exact absurd rfl h1
  rw [if_neg e] at h1 h2 ⊢
  by_cases e2 : cx_bc (cx_un a b) = 1 ∧ (cx_un a b &&& b) = 0
  · rw [if_pos e2, cx_new]
    have := cx_P_and (cx_un a b) (b ^^^ (-1 : Int32))
    rw [cx_P_1 e2.1] at this
    exact this
  · rw [if_neg e2] at h2; exact absurd rfl h2
theorem sx_ok_pi : ∀ (d i : Nat) (t : sx_T), i + d ≤ 2072 → sx_ok t → sx_ok (sx_pi d i t).2 := by
  intro d
  induction d with
  | zero => intro i t _ h; exact h
  | succ d ih =>
    intro i t hi h
    rw [sx_pi.eq_2]
    by_cases h1 : cx_fo (sx_fc t i) (sx_kn t) = -1
    · rw [if_pos h1]; exact h
    rw [if_neg h1]
    by_cases h2 : cx_fo (sx_fc t i) (sx_kn t) = -2
    · rw [if_pos h2]; exact ih _ _ (by omega) h
    · rw [if_neg h2]; exact ih _ _ (by omega) (sx_ok_as h (cx_fo_1 h1 h2) (Or.inr ⟨i, by omega, rfl⟩))
theorem sx_ok_po : ∀ (d : Nat) (t : sx_T), sx_ok t → sx_ok (sx_po d t).2 := by
  intro d
  induction d with
  | zero => intro t h; exact h
  | succ d ih =>
    intro t h
    rw [sx_po.eq_2]
    have h2 := sx_ok_pi (sx_sz t) 0 t (by have := h.1; omega) h
    generalize sx_pi (sx_sz t) 0 t = R at h2 ⊢
    obtain ⟨o, t2⟩ := R
    cases o with
    | some i => exact h2
    | none =>
      show sx_ok (if sx_kn t2 = sx_kn t then ((none, t2) : sx_R) else sx_po d t2).2
      by_cases e : sx_kn t2 = sx_kn t
      · rw [if_pos e]; exact h2
      · rw [if_neg e]; exact ih t2 h2
