section
variable {v n0 : Nat} {fc0 : Nat → Int32}
theorem se_pi {D : Nat → Nat} : ∀ (d i : Nat) (t : sx_T) (E : Nat → Nat), se_V v n0 fc0 t E D → i + d = sx_sz t → sx_sz t ≤ 2072 → ∃ E', se_V v n0 fc0 (sx_pi d i t).2 E' D ∧ se_X t (sx_pi d i t).2 E E' ∧ (∀ j, (sx_pi d i t).1 = some j → j < sx_sz t ∧ ∀ e, bt (sx_fc t j) e → bt (sx_kn (sx_pi d i t).2) (op_e e)) ∧ ((sx_pi d i t).1 = none → (sx_kn (sx_pi d i t).2 = sx_kn t ∧ ∀ k, i ≤ k → k < i + d → cx_fo (sx_fc t k) (sx_kn t) = -2) ∨ (¬ sx_kn (sx_pi d i t).2 = sx_kn t ∧ sx_ts t < sx_ts (sx_pi d i t).2)) := by
  intro d
  induction d with
  | zero =>
    intro i t E V hi hz
    refine ⟨E, V, se_X_r, fun j z => (by cases z), fun _ => Or.inl ⟨rfl, fun k h1 h2 => by omega⟩⟩
  | succ d ih =>
    intro i t E V hi hz
    rw [sx_pi.eq_2]
    by_cases h1 : cx_fo (sx_fc t i) (sx_kn t) = -1
    · rw [if_pos h1]
      refine ⟨E, V, se_X_r, fun j z => ?_, fun z => (by cases z)⟩
      cases z
      refine ⟨by omega, ?_⟩
      rcases fo_cases (V.2.1 i (by omega)).1 (se_k20 V) with ⟨-, z⟩ | ⟨z, -⟩ | ⟨e, e1, e2, e3, e4, e5, e6⟩
      · exact z
      · rw [h1] at z; exact absurd z (by decide)
      · rw [h1] at e6
        exact absurd e6.symm (b20_pos (b20_or (se_k20 V) (b20_sb e1))).1
    rw [if_neg h1]
    by_cases h2 : cx_fo (sx_fc t i) (sx_kn t) = -2
    · rw [if_pos h2]
      obtain ⟨E', a1, a2, a3, a4⟩ := ih (i + 1) t E V (by omega) hz
      refine ⟨E', a1, a2, a3, fun z => ?_⟩
      rcases a4 z with ⟨b1, b2⟩ | b
      · refine Or.inl ⟨b1, fun k k1 k2 => ?_⟩
        by_cases hk : k = i
        · rw [hk]; exact h2
        · exact b2 k (by omega) (by omega)
      · exact Or.inr b
    rw [if_neg h2]
    obtain ⟨e, e1, e2, e3, e4, e5, e6⟩ := se_fo V (show i < sx_sz t by omega) h1 h2
    rw [e6]
    obtain ⟨V1, X1, T1, K1⟩ := se_as V e1 e2 e3 (show i < sx_sz t by omega) (by omega) e4 e5
    have hsz : sx_sz (sx_as t (sb e) (nI i)) = sx_sz t := X1.1.2.1
    have hfc : sx_fc (sx_as t (sb e) (nI i)) = sx_fc t := X1.1.1
    obtain ⟨E', a1, a2, a3, a4⟩ := ih (i + 1) (sx_as t (sb e) (nI i)) _ V1 (by rw [hsz]; omega) (by rw [hsz]; exact hz)
    generalize sx_as t (sb e) (nI i) = t1 at V1 X1 T1 K1 hsz hfc a1 a2 a3 a4 ⊢
    generalize sx_pi d (i + 1) t1 = R at a1 a2 a3 a4 ⊢
    refine ⟨E', a1, se_X_t X1 a2, fun j z => ?_, fun z => Or.inr ⟨fun hkn => ?_, ?_⟩⟩
    · obtain ⟨b1, b2⟩ := a3 j z
      rw [hsz] at b1
      rw [hfc] at b2
      exact ⟨b1, b2⟩
    · have hb : bt (sx_kn R.2) e := by
        refine (a1.2.2.2.2.2.1 e).mpr ⟨sx_ts t, ?_, ?_⟩
        · have := a2.2.1
          omega
        · rw [(a2.2.2.1 (sx_ts t) (by omega)).1]
          exact if_pos rfl
      rw [hkn] at hb
      obtain ⟨k, hk, he⟩ := (V.2.2.2.2.2.1 e).mp hb
      exact e3 k hk (by rw [he])
    · have := a2.2.1
      omega
theorem se_po {D : Nat → Nat} : ∀ (d : Nat) (t : sx_T) (E : Nat → Nat), se_V v n0 fc0 t E D → v - sx_ts t < d → sx_sz t ≤ 2072 → ∃ E', se_V v n0 fc0 (sx_po d t).2 E' D ∧ se_X t (sx_po d t).2 E E' ∧ (∀ j, (sx_po d t).1 = some j → j < sx_sz t ∧ ∀ e, bt (sx_fc t j) e → bt (sx_kn (sx_po d t).2) (op_e e)) ∧ ((sx_po d t).1 = none → ∀ k, k < sx_sz t → cx_fo (sx_fc t k) (sx_kn (sx_po d t).2) = -2) := by
  intro d
  induction d with
  | zero => intro t E _ h; omega
  | succ d ih =>
    intro t E V hd hz
    rw [sx_po.eq_2]
    obtain ⟨E1, a1, a2, a3, a4⟩ := se_pi (sx_sz t) 0 t E V (by omega) hz
    generalize sx_pi (sx_sz t) 0 t = R at a1 a2 a3 a4 ⊢
    obtain ⟨o, t2⟩ := R
    cases o with
    | some j => exact ⟨E1, a1, a2, a3, fun z => (by cases z)⟩
    | none =>
      show ∃ E', se_V v n0 fc0 (if sx_kn t2 = sx_kn t then ((none, t2) : sx_R) else sx_po d t2).2 E' D ∧ se_X t (if sx_kn t2 = sx_kn t then ((none, t2) : sx_R) else sx_po d t2).2 E E' ∧ (∀ j, (if sx_kn t2 = sx_kn t then ((none, t2) : sx_R) else sx_po d t2).1 = some j → j < sx_sz t ∧ ∀ e, bt (sx_fc t j) e → bt (sx_kn (if sx_kn t2 = sx_kn t then ((none, t2) : sx_R) else sx_po d t2).2) (op_e e)) ∧ ((if sx_kn t2 = sx_kn t then ((none, t2) : sx_R) else sx_po d t2).1 = none → ∀ k, k < sx_sz t → cx_fo (sx_fc t k) (sx_kn (if sx_kn t2 = sx_kn t then ((none, t2) : sx_R) else sx_po d t2).2) = -2)
      have a1 : se_V v n0 fc0 t2 E1 D := a1
      have a2 : se_X t t2 E E1 := a2
      by_cases hkn : sx_kn t2 = sx_kn t
      · rw [if_pos hkn]
        refine ⟨E1, a1, a2, fun j z => (by cases z), fun _ k hk => ?_⟩
        show cx_fo (sx_fc t k) (sx_kn t2) = -2
        rw [hkn]
        rcases a4 rfl with ⟨-, b2⟩ | ⟨b1, -⟩
        · exact b2 k (Nat.zero_le _) (by omega)
        · exact absurd hkn b1
      · rw [if_neg hkn]
        have hts : sx_ts t < sx_ts t2 := by
          rcases a4 rfl with ⟨b1, -⟩ | ⟨-, b2⟩
          · exact absurd b1 hkn
          · exact b2
        have hle := se_ts a1
        have hsz : sx_sz t2 = sx_sz t := a2.1.2.1
        have hfc : sx_fc t2 = sx_fc t := a2.1.1
        obtain ⟨E2, c1, c2, c3, c4⟩ := ih t2 E1 a1 (by omega) (by rw [hsz]; exact hz)
        rw [hsz, hfc] at c3 c4
        exact ⟨E2, c1, se_X_t a2 c2, c3, c4⟩
theorem dv_bit : ∀ z, z < 11 → 1 ≤ z → cl_bit (nI z) = sb (z - 1) ∧ cl_bit (-(nI z)) = sb (z + 9) := by decide
theorem se_dv {t : sx_T} {E D : Nat → Nat} (V : se_V v n0 fc0 t E D) {z : Nat} (h1 : 1 ≤ z) (h2 : z ≤ 10) : (sx_kn t &&& (cl_bit (nI z) ||| cl_bit (-(nI z)))) = 0 ↔ ∀ i, i < sx_ts t → ¬ E i % 10 = z - 1 := by
  obtain ⟨b1, b2⟩ := dv_bit z (by omega) h1
  rw [b1, b2, bt_0]
  constructor
  · intro h i hi hm
    have hl := (V.2.2.2.1 i hi).2.1
    refine h (E i) (bt_and.mpr ⟨(V.2.2.2.2.2.1 _).mpr ⟨i, hi, rfl⟩, bt_or.mpr ?_⟩)
    rw [bt_sb (by omega), bt_sb (by omega)]
    omega
  · intro h e he
    obtain ⟨x1, x2⟩ := bt_and.mp he
    obtain ⟨i, hi, rfl⟩ := (V.2.2.2.2.2.1 e).mp x1
    refine h i hi ?_
    rw [bt_or, bt_sb (by omega), bt_sb (by omega)] at x2
    omega
theorem se_dw {t : sx_T} {E D : Nat → Nat} (V : se_V v n0 fc0 t E D) : ∀ (d x : Nat), 1 ≤ x → x + d ≤ v → (∀ z, 1 ≤ z → z < x → ∃ i, i < sx_ts t ∧ E i % 10 = z - 1) → x ≤ sx_dv (sx_kn t) d x ∧ sx_dv (sx_kn t) d x ≤ x + d ∧ (∀ z, 1 ≤ z → z < sx_dv (sx_kn t) d x → ∃ i, i < sx_ts t ∧ E i % 10 = z - 1) ∧ (sx_dv (sx_kn t) d x < x + d → ∀ i, i < sx_ts t → ¬ E i % 10 = sx_dv (sx_kn t) d x - 1) := by
  have hv := V.1.2.1
  intro d
  induction d with
  | zero => intro x h1 h2 h3; exact ⟨Nat.le_refl _, Nat.le_refl _, h3, fun z => absurd z (Nat.lt_irrefl _)⟩
  | succ d ih =>
    intro x h1 h2 h3
    rw [sx_dv.eq_2]
    by_cases hc : (sx_kn t &&& (cl_bit (nI x) ||| cl_bit (-(nI x)))) = 0
    · rw [if_pos hc]
      exact ⟨Nat.le_refl _, by omega, h3, fun _ => (se_dv V h1 (by omega)).mp hc⟩
    · rw [if_neg hc]
      have hx : ∃ i, i < sx_ts t ∧ E i % 10 = x - 1 := Classical.byContradiction fun z => hc ((se_dv V h1 (by omega)).mpr (fun i hi hm => z ⟨i, hi, hm⟩))
      obtain ⟨a1, a2, a3, a4⟩ := ih (x + 1) (by omega) (by omega) (fun z z1 z2 => by
        by_cases hzx : z = x
        · rw [hzx]; exact hx
        · exact h3 z z1 (by omega))
      exact ⟨by omega, by omega, a3, fun z => a4 (by omega)⟩
theorem se_lv {t : sx_T} {E D : Nat → Nat} (V : se_V v n0 fc0 t E D) : sx_lv t ≤ sx_ts t := by
  have h : ∀ l, 1 ≤ l → l ≤ sx_lv t → l ≤ D l + 1 := by
    intro l
    induction l with
    | zero => intro z; omega
    | succ l ih =>
      intro h1 h2
      by_cases hl : l = 0
      · subst hl; omega
      · have := ih (by omega) (by omega)
        have := V.2.2.2.2.2.2.2.1 l (l + 1) (by omega) (by omega) h2
        omega
  by_cases h0 : sx_lv t = 0
  · omega
  · have h1 := h (sx_lv t) (by omega) (Nat.le_refl _)
    have h2 := (V.2.2.2.2.2.2.1 (sx_lv t) (by omega) (Nat.le_refl _)).1
    omega
/-- a decision: the first variable that is not known, as false -/
theorem se_de {t : sx_T} {E D : Nat → Nat} (V : se_V v n0 fc0 t E D) (hts : sx_ts t < v) : ∃ E' D', se_V v n0 fc0 (sx_de t) E' D' ∧ sx_ts (sx_de t) = sx_ts t + 1 ∧ sx_fr (sx_de t) (sx_ts t) = -1 ∧ (∀ i, i < sx_ts t → sx_fr (sx_de t) i = sx_fr t i) ∧ (sx_fc (sx_de t) = sx_fc t ∧ sx_sz (sx_de t) = sx_sz t ∧ sx_fi (sx_de t) = sx_fi t ∧ sx_sa (sx_de t) = sx_sa t ∧ sx_re (sx_de t) = sx_re t ∧ sx_sh (sx_de t) = sx_sh t) := by
  have hlv := se_lv V
  have V0 := V
  obtain ⟨⟨v1, v2, v3⟩, v4, v5, v6, v7, v8, v9, v10, v11, v12⟩ := V
  obtain ⟨w1, w2, w3, w4⟩ := se_dw V0 (v - 1) 1 (Nat.le_refl _) (by omega) (fun z z1 z2 => by omega)
  unfold sx_de
  rw [if_pos (by omega), show sx_vv t - 1 = v - 1 by rw [v1]]
  generalize sx_dv (sx_kn t) (v - 1) 1 = y at w1 w2 w3 w4 ⊢
  have hy : ∀ i, i < sx_ts t → ¬ E i % 10 = y - 1 := by
    by_cases hyv : y < 1 + (v - 1)
    · exact w4 hyv
    · intro i hi hm
      have : v ≤ sx_ts t := ph_all (f := fun i => E i % 10) (fun i hi => (v6 i hi).2.2) (fun i j hi hj => v7 i j hi hj) (fun z hz => by
        by_cases hz2 : z = y - 1
        · exact ⟨i, hi, by rw [hz2]; exact hm⟩
        · obtain ⟨k, hk, hk2⟩ := w3 (z + 1) (by omega) (by omega)
          exact ⟨k, hk, hk2⟩)
      omega
  obtain ⟨-, b2⟩ := dv_bit y (by omega) w1
  rw [b2]
  unfold sx_as
  rw [if_pos (show sx_ts t < 10 by omega)]
  have eE : ∀ i, i < sx_ts t → (if i = sx_ts t then y + 9 else E i) = E i := fun i hi => if_neg (by omega)
  have eD : ∀ l, l ≤ sx_lv t → (if l = sx_lv t + 1 then sx_ts t else D l) = D l := fun l hl => if_neg (by omega)
  refine ⟨fun i => if i = sx_ts t then y + 9 else E i, fun l => if l = sx_lv t + 1 then sx_ts t else D l, ⟨⟨v1, v2, v3⟩, v4, v5, fun i hi => ?_, fun i j hi hj h => ?_, fun x => ?_, fun l hl1 hl2 => ?_, fun l m h1 h2 h3 => ?_, fun i hi hd => ?_, fun i hi hd => ?_⟩, rfl, ?_, fun i hi => ?_, rfl, rfl, rfl, rfl, rfl, rfl⟩
  · have hi : i < sx_ts t + 1 := hi
    show upd (sx_ft t) (sx_ts t) (sb (y + 9)) i = sb (if i = sx_ts t then y + 9 else E i) ∧ (if i = sx_ts t then y + 9 else E i) < 20 ∧ (if i = sx_ts t then y + 9 else E i) % 10 < v
    by_cases hi2 : i = sx_ts t
    · subst hi2
      rw [pk_us, if_pos rfl]
      exact ⟨rfl, by omega, by omega⟩
    · rw [pk_un hi2, if_neg hi2]
      exact v6 i (by omega)
  · have hi : i < sx_ts t + 1 := hi
    have hj : j < sx_ts t + 1 := hj
    have h : (if i = sx_ts t then y + 9 else E i) % 10 = (if j = sx_ts t then y + 9 else E j) % 10 := h
    by_cases hi2 : i = sx_ts t
    · by_cases hj2 : j = sx_ts t
      · omega
      · rw [if_pos hi2, if_neg hj2] at h
        exact absurd (show E j % 10 = y - 1 by omega) (hy j (by omega))
    · by_cases hj2 : j = sx_ts t
      · rw [if_neg hi2, if_pos hj2] at h
        exact absurd (show E i % 10 = y - 1 by omega) (hy i (by omega))
      · rw [if_neg hi2, if_neg hj2] at h
        exact v7 i j (by omega) (by omega) h
  · show bt (sx_kn t ||| sb (y + 9)) x ↔ ∃ i, i < sx_ts t + 1 ∧ (if i = sx_ts t then y + 9 else E i) = x
    rw [bt_or, bt_sb (by omega), v8]
    constructor
    · rintro (⟨i, hi, hx⟩ | hx)
      · exact ⟨i, by omega, (eE i hi).trans hx⟩
      · exact ⟨sx_ts t, by omega, by rw [if_pos rfl]; exact hx.symm⟩
    · rintro ⟨i, hi, hx⟩
      by_cases hi2 : i = sx_ts t
      · rw [if_pos hi2] at hx; exact Or.inr hx.symm
      · rw [if_neg hi2] at hx; exact Or.inl ⟨i, by omega, hx⟩
  · have hl2 : l ≤ sx_lv t + 1 := hl2
    show (if l = sx_lv t + 1 then sx_ts t else D l) < sx_ts t + 1 ∧ upd (sx_fr t) (sx_ts t) (-1) (if l = sx_lv t + 1 then sx_ts t else D l) = -1 ∧ ∀ x, bt (upd (sx_fk t) (sx_lv t + 1) (sx_kn t) l) x ↔ ∃ i, i < (if l = sx_lv t + 1 then sx_ts t else D l) ∧ (if i = sx_ts t then y + 9 else E i) = x
    by_cases hl : l = sx_lv t + 1
    · rw [if_pos hl, pk_us, hl, pk_us]
      refine ⟨by omega, rfl, fun x => ?_⟩
      rw [v8]
      constructor
      · rintro ⟨i, hi, hx⟩; exact ⟨i, hi, (eE i hi).trans hx⟩
      · rintro ⟨i, hi, hx⟩; exact ⟨i, hi, (eE i hi).symm.trans hx⟩
    · obtain ⟨d1, d2, d3⟩ := v9 l hl1 (by omega)
      rw [if_neg hl, pk_un (by omega), pk_un hl]
      refine ⟨by omega, d2, fun x => ?_⟩
      rw [d3]
      constructor
      · rintro ⟨i, hi, hx⟩; exact ⟨i, hi, (eE i (by omega)).trans hx⟩
      · rintro ⟨i, hi, hx⟩; exact ⟨i, hi, (eE i (by omega)).symm.trans hx⟩
  · have h3 : m ≤ sx_lv t + 1 := h3
    show (if l = sx_lv t + 1 then sx_ts t else D l) < (if m = sx_lv t + 1 then sx_ts t else D m)
    rw [eD l (by omega)]
    by_cases hm : m = sx_lv t + 1
    · rw [if_pos hm]
      exact (v9 l h1 (by omega)).1
    · rw [if_neg hm]
      exact v10 l m h1 h2 (by omega)
  · have hi : i < sx_ts t + 1 := hi
    have hd : upd (sx_fr t) (sx_ts t) (-1) i = -1 := hd
    show (∃ l, 1 ≤ l ∧ l ≤ sx_lv t + 1 ∧ i = (if l = sx_lv t + 1 then sx_ts t else D l)) ∧ 10 ≤ (if i = sx_ts t then y + 9 else E i) ∧ ∀ z, z < (if i = sx_ts t then y + 9 else E i) - 10 → ∃ k, k < i ∧ (if k = sx_ts t then y + 9 else E k) % 10 = z
    by_cases hi2 : i = sx_ts t
    · rw [if_pos hi2]
      refine ⟨⟨sx_lv t + 1, by omega, Nat.le_refl _, by rw [if_pos rfl]; exact hi2⟩, by omega, fun z hz => ?_⟩
      obtain ⟨k, hk, hk2⟩ := w3 (z + 1) (by omega) (by omega)
      exact ⟨k, by omega, by rw [eE k hk]; exact hk2⟩
    · rw [pk_un hi2] at hd
      obtain ⟨⟨l, x1, x2, x3⟩, x4, x5⟩ := v11 i (by omega) hd
      rw [if_neg hi2]
      refine ⟨⟨l, x1, by omega, by rw [eD l x2]; exact x3⟩, x4, fun z hz => ?_⟩
      obtain ⟨k, hk, hk2⟩ := x5 z hz
      exact ⟨k, hk, by rw [eE k (by omega)]; exact hk2⟩
  · have hi : i < sx_ts t + 1 := hi
    have hd : ¬ upd (sx_fr t) (sx_ts t) (-1) i = -1 := hd
    have hi2 : ¬ i = sx_ts t := fun z => hd (by rw [z, pk_us])
    rw [pk_un hi2] at hd
    obtain ⟨r', x1, x2, x3, x4⟩ := v12 i (by omega) hd
    show ∃ r', r' < sx_sz t ∧ upd (sx_fr t) (sx_ts t) (-1) i = nI r' ∧ bt (sx_fc t r') (if i = sx_ts t then y + 9 else E i) ∧ ∀ x, bt (sx_fc t r') x → x ≠ (if i = sx_ts t then y + 9 else E i) → ∃ k, k < i ∧ (if k = sx_ts t then y + 9 else E k) = op_e x
    rw [pk_un hi2, if_neg hi2]
    refine ⟨r', x1, x2, x3, fun x hx hxe => ?_⟩
    obtain ⟨k, hk, hk2⟩ := x4 x hx hxe
    exact ⟨k, hk, (eE k (by omega)).trans hk2⟩
  · show upd (sx_fr t) (sx_ts t) (-1) (sx_ts t) = -1
    exact pk_us
  · show upd (sx_fr t) (sx_ts t) (-1) i = sx_fr t i
    exact pk_un (by omega)
end
