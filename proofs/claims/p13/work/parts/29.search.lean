/-- the search's state -/
abbrev sx_T : Type := (Nat → Int32) × Nat × Nat × Bool × Bool × Bool × Bool × Int32 × (Nat → Int32) × (Nat → Int32) × Nat × (Nat → Int32) × Nat × (Nat → Int32) × Nat
abbrev sx_fc (t : sx_T) : Nat → Int32 := t.1
abbrev sx_sz (t : sx_T) : Nat := t.2.1
abbrev sx_vv (t : sx_T) : Nat := t.2.2.1
abbrev sx_fi (t : sx_T) : Bool := t.2.2.2.1
abbrev sx_sa (t : sx_T) : Bool := t.2.2.2.2.1
abbrev sx_re (t : sx_T) : Bool := t.2.2.2.2.2.1
abbrev sx_sh (t : sx_T) : Bool := t.2.2.2.2.2.2.1
abbrev sx_kn (t : sx_T) : Int32 := t.2.2.2.2.2.2.2.1
abbrev sx_ft (t : sx_T) : Nat → Int32 := t.2.2.2.2.2.2.2.2.1
abbrev sx_fr (t : sx_T) : Nat → Int32 := t.2.2.2.2.2.2.2.2.2.1
abbrev sx_ts (t : sx_T) : Nat := t.2.2.2.2.2.2.2.2.2.2.1
abbrev sx_fk (t : sx_T) : Nat → Int32 := t.2.2.2.2.2.2.2.2.2.2.2.1
abbrev sx_lv (t : sx_T) : Nat := t.2.2.2.2.2.2.2.2.2.2.2.2.1
abbrev sx_fh (t : sx_T) : Nat → Int32 := t.2.2.2.2.2.2.2.2.2.2.2.2.2.1
abbrev sx_hc (t : sx_T) : Nat := t.2.2.2.2.2.2.2.2.2.2.2.2.2.2
abbrev sx_o (q : Nat → Nat) (t : sx_T) : va_E := .inr (2, [.ref (q 1), .int (nI (sx_sz t)), .int (nI (sx_vv t)), .int (hw_z (sx_fi t)), .int (hw_z (sx_sa t)), .int (hw_z (sx_re t)), .int (hw_z (sx_sh t)), .int (sx_kn t), .ref (q 2), .ref (q 3), .int (nI (sx_ts t)), .ref (q 4), .int (nI (sx_lv t)), .ref (q 5), .int (nI (sx_hc t))])
/-- the cells are other cells -/
def sx_D (q : Nat → Nat) : Prop := ∀ i j, i < 6 → j < 6 → i ≠ j → q i ≠ q j
def sx_I (g : hw_G) (w : hw_H) (q : Nat → Nat) (t : sx_T) : Prop := sx_D q ∧ w (q 0) = some (sx_o q t) ∧ w (q 1) = some (ar_i g 2072 (sx_fc t)) ∧ w (q 2) = some (ar_i g 10 (sx_ft t)) ∧ w (q 3) = some (ar_i g 10 (sx_fr t)) ∧ w (q 4) = some (ar_i g 11 (sx_fk t)) ∧ w (q 5) = some (ar_i g 11 (sx_fh t))
def sx_K (w w' : hw_H) (q : Nat → Nat) : Prop := ∀ y, w y ≠ none → (∀ i, i < 6 → y ≠ q i) → w' y = w y
theorem sx_K_r {w : hw_H} {q : Nat → Nat} : sx_K w w q := fun _ _ _ => rfl
theorem sx_K_t {w w1 w2 : hw_H} {q : Nat → Nat} (h1 : sx_K w w1 q) (h2 : sx_K w1 w2 q) : sx_K w w2 q := fun y hy hn => by
  have e1 := h1 y hy hn
  rw [h2 y (by rw [e1]; exact hy) hn]; exact e1
theorem sx_K_u {w w1 : hw_H} {q : Nat → Nat} {i : Nat} {e : Option va_E} (h1 : sx_K w w1 q) (hi : i < 6) : sx_K w (va_up w1 (q i) e) q := fun y hy hn => by
  rw [va_up_ne _ _ (hn i hi)]; exact h1 y hy hn
theorem sx_u0 {g : hw_G} {w : hw_H} {q : Nat → Nat} {t t' : sx_T} (h : sx_I g w q t) (e1 : sx_fc t' = sx_fc t) (e2 : sx_ft t' = sx_ft t) (e3 : sx_fr t' = sx_fr t) (e4 : sx_fk t' = sx_fk t) (e5 : sx_fh t' = sx_fh t) : sx_I g (va_up w (q 0) (some (sx_o q t'))) q t' := by
  obtain ⟨D, h0, h1, h2, h3, h4, h5⟩ := h
  refine ⟨D, va_up_self _ _ _, ?_, ?_, ?_, ?_, ?_⟩
  · rw [va_up_ne _ _ (D 1 0 (by decide) (by decide) (by decide)), e1]; exact h1
  · rw [va_up_ne _ _ (D 2 0 (by decide) (by decide) (by decide)), e2]; exact h2
  · rw [va_up_ne _ _ (D 3 0 (by decide) (by decide) (by decide)), e3]; exact h3
  · rw [va_up_ne _ _ (D 4 0 (by decide) (by decide) (by decide)), e4]; exact h4
  · rw [va_up_ne _ _ (D 5 0 (by decide) (by decide) (by decide)), e5]; exact h5
theorem sx_u1 {g : hw_G} {w : hw_H} {q : Nat → Nat} {t : sx_T} (f : Nat → Int32) (h : sx_I g w q t) : sx_I g (va_up w (q 1) (some (ar_i g 2072 f))) q (f, sx_sz t, sx_vv t, sx_fi t, sx_sa t, sx_re t, sx_sh t, sx_kn t, sx_ft t, sx_fr t, sx_ts t, sx_fk t, sx_lv t, sx_fh t, sx_hc t) := by
  obtain ⟨D, h0, h1, h2, h3, h4, h5⟩ := h
  refine ⟨D, ?_, ?_, ?_, ?_, ?_, ?_⟩
  · rw [va_up_ne _ _ (D 0 1 (by decide) (by decide) (by decide))]; exact h0
  · exact va_up_self _ _ _
  · rw [va_up_ne _ _ (D 2 1 (by decide) (by decide) (by decide))]; exact h2
  · rw [va_up_ne _ _ (D 3 1 (by decide) (by decide) (by decide))]; exact h3
  · rw [va_up_ne _ _ (D 4 1 (by decide) (by decide) (by decide))]; exact h4
  · rw [va_up_ne _ _ (D 5 1 (by decide) (by decide) (by decide))]; exact h5
theorem sx_u2 {g : hw_G} {w : hw_H} {q : Nat → Nat} {t : sx_T} (f : Nat → Int32) (h : sx_I g w q t) : sx_I g (va_up w (q 2) (some (ar_i g 10 f))) q (sx_fc t, sx_sz t, sx_vv t, sx_fi t, sx_sa t, sx_re t, sx_sh t, sx_kn t, f, sx_fr t, sx_ts t, sx_fk t, sx_lv t, sx_fh t, sx_hc t) := by
  obtain ⟨D, h0, h1, h2, h3, h4, h5⟩ := h
  refine ⟨D, ?_, ?_, ?_, ?_, ?_, ?_⟩
  · rw [va_up_ne _ _ (D 0 2 (by decide) (by decide) (by decide))]; exact h0
  · rw [va_up_ne _ _ (D 1 2 (by decide) (by decide) (by decide))]; exact h1
  · exact va_up_self _ _ _
  · rw [va_up_ne _ _ (D 3 2 (by decide) (by decide) (by decide))]; exact h3
  · rw [va_up_ne _ _ (D 4 2 (by decide) (by decide) (by decide))]; exact h4
  · rw [va_up_ne _ _ (D 5 2 (by decide) (by decide) (by decide))]; exact h5
theorem sx_u3 {g : hw_G} {w : hw_H} {q : Nat → Nat} {t : sx_T} (f : Nat → Int32) (h : sx_I g w q t) : sx_I g (va_up w (q 3) (some (ar_i g 10 f))) q (sx_fc t, sx_sz t, sx_vv t, sx_fi t, sx_sa t, sx_re t, sx_sh t, sx_kn t, sx_ft t, f, sx_ts t, sx_fk t, sx_lv t, sx_fh t, sx_hc t) := by
  obtain ⟨D, h0, h1, h2, h3, h4, h5⟩ := h
  refine ⟨D, ?_, ?_, ?_, ?_, ?_, ?_⟩
  · rw [va_up_ne _ _ (D 0 3 (by decide) (by decide) (by decide))]; exact h0
  · rw [va_up_ne _ _ (D 1 3 (by decide) (by decide) (by decide))]; exact h1
  · rw [va_up_ne _ _ (D 2 3 (by decide) (by decide) (by decide))]; exact h2
  · exact va_up_self _ _ _
  · rw [va_up_ne _ _ (D 4 3 (by decide) (by decide) (by decide))]; exact h4
  · rw [va_up_ne _ _ (D 5 3 (by decide) (by decide) (by decide))]; exact h5
theorem sx_u4 {g : hw_G} {w : hw_H} {q : Nat → Nat} {t : sx_T} (f : Nat → Int32) (h : sx_I g w q t) : sx_I g (va_up w (q 4) (some (ar_i g 11 f))) q (sx_fc t, sx_sz t, sx_vv t, sx_fi t, sx_sa t, sx_re t, sx_sh t, sx_kn t, sx_ft t, sx_fr t, sx_ts t, f, sx_lv t, sx_fh t, sx_hc t) := by
  obtain ⟨D, h0, h1, h2, h3, h4, h5⟩ := h
  refine ⟨D, ?_, ?_, ?_, ?_, ?_, ?_⟩
  · rw [va_up_ne _ _ (D 0 4 (by decide) (by decide) (by decide))]; exact h0
  · rw [va_up_ne _ _ (D 1 4 (by decide) (by decide) (by decide))]; exact h1
  · rw [va_up_ne _ _ (D 2 4 (by decide) (by decide) (by decide))]; exact h2
  · rw [va_up_ne _ _ (D 3 4 (by decide) (by decide) (by decide))]; exact h3
  · exact va_up_self _ _ _
  · rw [va_up_ne _ _ (D 5 4 (by decide) (by decide) (by decide))]; exact h5
theorem sx_u5 {g : hw_G} {w : hw_H} {q : Nat → Nat} {t : sx_T} (f : Nat → Int32) (h : sx_I g w q t) : sx_I g (va_up w (q 5) (some (ar_i g 11 f))) q (sx_fc t, sx_sz t, sx_vv t, sx_fi t, sx_sa t, sx_re t, sx_sh t, sx_kn t, sx_ft t, sx_fr t, sx_ts t, sx_fk t, sx_lv t, f, sx_hc t) := by
  obtain ⟨D, h0, h1, h2, h3, h4, h5⟩ := h
  refine ⟨D, ?_, ?_, ?_, ?_, ?_, ?_⟩
  · rw [va_up_ne _ _ (D 0 5 (by decide) (by decide) (by decide))]; exact h0
  · rw [va_up_ne _ _ (D 1 5 (by decide) (by decide) (by decide))]; exact h1
  · rw [va_up_ne _ _ (D 2 5 (by decide) (by decide) (by decide))]; exact h2
  · rw [va_up_ne _ _ (D 3 5 (by decide) (by decide) (by decide))]; exact h3
  · rw [va_up_ne _ _ (D 4 5 (by decide) (by decide) (by decide))]; exact h4
  · exact va_up_self _ _ _
def sx_as (t : sx_T) (x r : Int32) : sx_T := if sx_ts t < 10 then (sx_fc t, sx_sz t, sx_vv t, sx_fi t, sx_sa t, sx_re t, sx_sh t, sx_kn t ||| x, upd (sx_ft t) (sx_ts t) x, upd (sx_fr t) (sx_ts t) r, sx_ts t + 1, sx_fk t, sx_lv t, sx_fh t, sx_hc t) else t
set_option maxHeartbeats 4000000 in
set_option maxRecDepth 100000 in
theorem ct_Se_assume (l : Launch) (g : hw_G) (w : hw_H) {q : Nat → Nat} {t : sx_T} {x r : Int32} (hI : sx_I g w q t) (ht : sx_ts t ≤ 10) : hw_Mv l g ym_Se_assume mw_Se_assume (hw_R 1 0 0) [.ref (q 0), .int x, .int r] w (fun w' => sx_I g w' q (sx_as t x r) ∧ sx_K w w' q) := by
  refine hw_enterv (r := 0) rfl rfl (by simp [Value.category]) (Nat.le_of_ble_eq_true rfl) ?_
  intro p e s m args below meth c A X hr hlk hnm
  refine sg_Se_assume_0 X (fun _ _ _ _ _ _ h => h) (hw_rtv X hr hlk) ?_
  unfold vc_Se_assume_0
  obtain ⟨D, h0, h1, h2, h3, h4, h5⟩ := hI
  have hI : sx_I g w q t := ⟨D, h0, h1, h2, h3, h4, h5⟩
  refine ⟨_, ⟨_, h0, rfl⟩, fun h => ⟨hw_00, ?_, sx_K_r⟩, fun h => ?_⟩
  · have h9 : ¬ sx_ts t < 10 := fun z => absurd h (nI_ge (b := 10) z (by omega))
    unfold sx_as; rw [if_neg h9]; exact hI
  · have h9 : sx_ts t < 10 := by
      rcases Nat.lt_or_ge (sx_ts t) 10 with z | z
      · exact z
      · exact absurd (nI_le (a := 10) z (by omega)) h
    have i1 := sx_u2 (upd (sx_ft t) (sx_ts t) x) hI
    have i2 := sx_u3 (upd (sx_fr t) (sx_ts t) r) i1
    have i3 := sx_u0 (t' := (sx_fc t, sx_sz t, sx_vv t, sx_fi t, sx_sa t, sx_re t, sx_sh t, sx_kn t, upd (sx_ft t) (sx_ts t) x, upd (sx_fr t) (sx_ts t) r, sx_ts t + 1, sx_fk t, sx_lv t, sx_fh t, sx_hc t)) i2 rfl rfl rfl rfl rfl
    have i4 := sx_u0 (t' := (sx_fc t, sx_sz t, sx_vv t, sx_fi t, sx_sa t, sx_re t, sx_sh t, sx_kn t ||| x, upd (sx_ft t) (sx_ts t) x, upd (sx_fr t) (sx_ts t) r, sx_ts t + 1, sx_fk t, sx_lv t, sx_fh t, sx_hc t)) i3 rfl rfl rfl rfl rfl
    refine ⟨_, ⟨_, h0, rfl⟩, _, ⟨_, h0, rfl⟩, _, ⟨_, _, h2, vp_in_nI h9 (by omega), rfl⟩, ?_⟩
    rw [nI_clamp (by omega)]
    refine ⟨_, ⟨_, i1.2.1, rfl⟩, _, ⟨_, i1.2.1, rfl⟩, _, ⟨_, _, i1.2.2.2.2.1, vp_in_nI h9 (by omega), rfl⟩, ?_⟩
    rw [nI_clamp (by show sx_ts t < _; omega)]
    refine ⟨_, ⟨_, i2.2.1, rfl⟩, _, ⟨_, i2.2.1, Nat.le_of_ble_eq_true rfl, rfl⟩, ?_⟩
    rw [nI_1]
    refine ⟨_, ⟨_, i3.2.1, rfl⟩, _, ⟨_, i3.2.1, Nat.le_of_ble_eq_true rfl, rfl⟩, hw_00, ?_, ?_⟩
    · unfold sx_as; rw [if_pos h9]; exact i4
    · exact sx_K_u (sx_K_u (sx_K_u (sx_K_u sx_K_r (by decide)) (by decide)) (by decide)) (by decide)
