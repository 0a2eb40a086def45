/-- the state with other hints -/
def se_h (u : sx_T) (fh : Nat → Int32) (hc : Nat) : sx_T := (sx_fc u, sx_sz u, sx_vv u, sx_fi u, sx_sa u, sx_re u, sx_sh u, sx_kn u, sx_ft u, sx_fr u, sx_ts u, sx_fk u, sx_lv u, fh, hc)
theorem sl_e {u : sx_T} {fh fh' : Nat → Int32} {hc hc' : Nat} : ∀ (n : Nat) (a : Int32), (∀ i, i < n → fh' i = fh i) → sx_sl (se_h u fh' hc') n a = sx_sl (se_h u fh hc) n a := by
  intro n
  induction n with
  | zero => intro a _; rfl
  | succ n ih =>
    intro a h
    rw [sx_sl.eq_2, sx_sl.eq_2]
    have e : sx_fh (se_h u fh' hc') n = sx_fh (se_h u fh hc) n := h n (by omega)
    have e2 : sx_fc (se_h u fh' hc') = sx_fc (se_h u fh hc) := rfl
    rw [e, e2, ih _ (fun i hi => h i (by omega))]
def se_L (n0 : Nat) (fc0 : Nat → Int32) (u : sx_T) (E D : Nat → Nat) (i : Nat) (b : Int32) (fh : Nat → Int32) (hc : Nat) : Prop := b20 b ∧ (∀ e, bt b e → ∃ k, k < sx_ts u ∧ E k = e) ∧ (∀ A, sat_F n0 fc0 A → ∃ e, bt b e ∧ lit A e = false) ∧ (sx_lv u = 0 → ∀ k, i ≤ k → k < sx_ts u → ¬ bt b (E k)) ∧ (1 ≤ sx_lv u → (∀ k, i ≤ k → D (sx_lv u) ≤ k → k < sx_ts u → ¬ bt b (E k)) ∨ ∃ k0, i ≤ k0 ∧ D (sx_lv u) ≤ k0 ∧ k0 < sx_ts u ∧ ∀ k, D (sx_lv u) ≤ k → k < sx_ts u → bt b (E k) → k = k0) ∧ (1 ≤ hc ∧ hc + i ≤ sx_ts u + 1) ∧ (∀ K, b20 K → (∀ e, bt K e → ∃ k, k < sx_ts u ∧ E k = e) → (∀ e, bt b e → bt K e) → (∀ k, i ≤ k → k < sx_ts u → bt K (E k) → bt b (E k)) → sx_sl (se_h u fh hc) hc K = true)
section
variable {v n0 : Nat} {fc0 : Nat → Int32} {u : sx_T} {E D : Nat → Nat}
theorem se_inj (V : se_V v n0 fc0 u E D) {i j : Nat} (hi : i < sx_ts u) (hj : j < sx_ts u) (h : E i = E j) : i = j := V.2.2.2.2.1 i j hi hj (by rw [h])
theorem se_L_0 (V : se_V v n0 fc0 u E D) {j : Nat} (hj : j < sx_sz u) (hz : sx_sz u ≤ 2072) (hc : ∀ e, bt (sx_fc u j) e → bt (sx_kn u) (op_e e)) : se_L n0 fc0 u E D (sx_ts u) (cx_op (sx_fc u j)) (upd (sx_fh u) 0 (nI j)) 1 := by
  obtain ⟨c1, c2, c3⟩ := V.2.1 j hj
  have hb : ∀ e, bt (cx_op (sx_fc u j)) e ↔ (e < 20 ∧ bt (sx_fc u j) (op_e e)) := fun e => bt_op c1
  refine ⟨b20_op, fun e he => ?_, fun A hA => ?_, fun _ k h1 h2 => by omega, fun _ => Or.inl (fun k h1 h2 h3 => by omega), ⟨Nat.le_refl _, by omega⟩, fun K k1 k2 k3 k4 => ?_⟩
  · obtain ⟨h1, h2⟩ := (hb e).mp he
    have h3 := hc _ h2
    rw [op_op h1] at h3
    exact (V.2.2.2.2.2.1 e).mp h3
  · obtain ⟨e, h1, h2⟩ := c3 A hA
    have h3 := bt_lt c1 h1
    refine ⟨op_e e, (hb _).mpr ⟨op_lt h3, by rw [op_op h3]; exact h1⟩, ?_⟩
    rw [lit_op h3, h2]; rfl
  · have hf : cx_fo (sx_fc u j) K = -1 := by
      rcases fo_cases c1 k1 with ⟨z, -⟩ | ⟨-, e, e1, e2, -⟩ | ⟨e, e0, e1, e2, -⟩
      · exact z
      · have h3 := bt_lt c1 e1
        exact absurd (k3 _ ((hb _).mpr ⟨op_lt h3, by rw [op_op h3]; exact e1⟩)) e2
      · have h3 := bt_lt c1 e1
        exact absurd (k3 _ ((hb _).mpr ⟨op_lt h3, by rw [op_op h3]; exact e1⟩)) e2
    rw [sx_sl.eq_2]
    have e0 : (sx_fh (se_h u (upd (sx_fh u) 0 (nI j)) 1) 0).toNatClampNeg = j := by
      show (upd (sx_fh u) 0 (nI j) 0).toNatClampNeg = j
      rw [pk_us, nI_clamp (by omega)]
    rw [e0]
    have e1 : sx_fc (se_h u (upd (sx_fh u) 0 (nI j)) 1) j = sx_fc u j := rfl
    rw [e1, hf, if_neg (by decide)]
    decide
theorem se_L_s (V : se_V v n0 fc0 u E D) {p : Nat} {b : Int32} {fh : Nat → Int32} {hc : Nat} (hp : p < sx_ts u) (L : se_L n0 fc0 u E D (p + 1) b fh hc) (h : ¬ bt b (E p) ∨ sx_ke u p b = true) : se_L n0 fc0 u E D p b fh hc := by
  obtain ⟨l1, l2, l3, l4, l5, l6, l7⟩ := L
  have v9 := V.2.2.2.2.2.2.1
  have v10 := V.2.2.2.2.2.2.2.1
  have v11 := V.2.2.2.2.2.2.2.2.1
  refine ⟨l1, l2, l3, fun hl k h1 h2 hb => ?_, fun hl => ?_, ⟨l6.1, by omega⟩, fun K k1 k2 k3 k4 => l7 K k1 k2 k3 (fun k h1 h2 => k4 k (by omega) h2)⟩
  · by_cases hkp : k = p
    · subst hkp
      rcases h with z | z
      · exact z hb
      · unfold sx_ke at z
        by_cases hf : sx_fr u k = -1
        · obtain ⟨⟨l, x1, x2, -⟩, -⟩ := v11 k hp hf
          omega
        · rw [if_neg hf, if_pos hl] at z
          cases z
    · exact l4 hl k (by omega) h2 hb
  · rcases l5 hl with hA | ⟨k0, m1, m2, m3, m4⟩
    · by_cases hpD : D (sx_lv u) ≤ p
      · by_cases hb : bt b (E p)
        · right
          have hke : sx_ke u p b = true := h.resolve_left (fun z => z hb)
          refine ⟨p, Nat.le_refl _, hpD, hp, fun k h1 h2 h3 => ?_⟩
          by_cases hkp : k = p
          · exact hkp
          unfold sx_ke at hke
          by_cases hf : sx_fr u p = -1
          · obtain ⟨⟨l, x1, x2, x3⟩, -⟩ := v11 p hp hf
            have hll : l = sx_lv u := by
              rcases Nat.lt_or_ge l (sx_lv u) with z | z
              · have := v10 l (sx_lv u) x1 z (Nat.le_refl _)
                omega
              · omega
            subst hll
            exact absurd h3 (hA k (by omega) h1 h2)
          rw [if_neg hf, if_neg (by omega)] at hke
          by_cases h1f : ¬ (sx_fk u 1 &&& sx_ft u p) = 0
          · rw [if_pos h1f] at hke; cases hke
          rw [if_neg h1f] at hke
          obtain ⟨-, -, d3⟩ := v9 (sx_lv u) hl (Nat.le_refl _)
          have hno : ∀ k, D (sx_lv u) ≤ k → k < sx_ts u → ¬ bt (sx_fk u (sx_lv u)) (E k) := fun k z1 z2 z3 => by
            obtain ⟨i, hi, he⟩ := (d3 _).mp z3
            have := se_inj V (by omega) z2 he
            omega
          have hft : sx_ft u p = sb (E p) := (V.2.2.2.1 p hp).1
          have hE20 := (V.2.2.2.1 p hp).2.1
          by_cases h2f : ¬ (sx_fk u (sx_lv u) &&& sx_ft u p) = 0
          · obtain ⟨e, he⟩ := bt_n0 h2f
            obtain ⟨y1, y2⟩ := bt_and.mp he
            rw [hft, bt_sb (by omega)] at y2
            subst y2
            exact absurd y1 (hno p hpD hp)
          rw [if_neg h2f] at hke
          have hd := of_decide_eq_true hke
          have hx : bt (b &&& (sx_fk u (sx_lv u) ^^^ (-1 : Int32))) (E k) := bt_an.mpr ⟨h3, hno k h1 h2⟩
          rw [hd, hft, bt_sb (by omega)] at hx
          exact se_inj V h2 hp hx
        · left
          intro k h1 h2 h3 h4
          by_cases hkp : k = p
          · subst hkp; exact hb h4
          · exact hA k (by omega) h2 h3 h4
      · left
        intro k h1 h2 h3
        exact hA k (by omega) h2 h3
    · exact Or.inr ⟨k0, by omega, m2, m3, m4⟩
theorem se_L_r (V : se_V v n0 fc0 u E D) {p : Nat} {b : Int32} {fh : Nat → Int32} {hc : Nat} (hp : p < sx_ts u) (hz : sx_sz u ≤ 2072) (L : se_L n0 fc0 u E D (p + 1) b fh hc) (hb : bt b (E p)) (hke : ¬ sx_ke u p b = true) : se_L n0 fc0 u E D p ((b &&& (sx_ft u p ^^^ (-1 : Int32))) ||| cx_op (sx_fc u (sx_fr u p).toNatClampNeg &&& (sx_ft u p ^^^ (-1 : Int32)))) (upd fh hc (sx_fr u p)) (hc + 1) := by
  obtain ⟨l1, l2, l3, l4, l5, l6, l7⟩ := L
  have hf : ¬ sx_fr u p = -1 := fun z => hke (by unfold sx_ke; rw [if_pos z])
  obtain ⟨r, r1, r2, r3, r4⟩ := V.2.2.2.2.2.2.2.2.2 p hp hf
  obtain ⟨hft, hE, -⟩ := V.2.2.2.1 p hp
  obtain ⟨c1, c2, c3⟩ := V.2.1 r r1
  have hrc : (sx_fr u p).toNatClampNeg = r := by rw [r2, nI_clamp (by omega)]
  rw [hrc, hft]
  have hb' : ∀ e, bt ((b &&& (sb (E p) ^^^ (-1 : Int32))) ||| cx_op (sx_fc u r &&& (sb (E p) ^^^ (-1 : Int32)))) e ↔ ((bt b e ∧ e ≠ E p) ∨ (e < 20 ∧ bt (sx_fc u r) (op_e e) ∧ op_e e ≠ E p)) := by
    intro e
    rw [bt_or, bt_an, bt_op (b20_an c1), bt_an, bt_sb (by omega), bt_sb (by omega)]
  -- the reason's others stand before
  have hlow : ∀ e, e < 20 → bt (sx_fc u r) (op_e e) → op_e e ≠ E p → ∃ k, k < p ∧ E k = e := fun e h1 h2 h3 => by
    obtain ⟨k, k1, k2⟩ := r4 _ h2 h3
    rw [op_op h1] at k2
    exact ⟨k, k1, k2⟩
  have hpos : ∀ k, p ≤ k → k < sx_ts u → bt ((b &&& (sb (E p) ^^^ (-1 : Int32))) ||| cx_op (sx_fc u r &&& (sb (E p) ^^^ (-1 : Int32)))) (E k) → bt b (E k) ∧ k ≠ p := fun k h1 h2 h3 => by
    rcases (hb' _).mp h3 with ⟨z1, z2⟩ | ⟨z1, z2, z3⟩
    · exact ⟨z1, fun z => z2 (by rw [z])⟩
    · obtain ⟨k', k1, k2⟩ := hlow _ z1 z2 z3
      have := se_inj V (by omega) h2 k2
      omega
  refine ⟨b20_or (b20_an l1) b20_op, fun e he => ?_, fun A hA => ?_, fun hl k h1 h2 h3 => ?_, fun hl => ?_, ⟨by omega, by omega⟩, fun K k1 k2 k3 k4 => ?_⟩
  · rcases (hb' e).mp he with ⟨z1, -⟩ | ⟨z1, z2, z3⟩
    · exact l2 e z1
    · obtain ⟨k, k1, k2⟩ := hlow e z1 z2 z3
      exact ⟨k, by omega, k2⟩
  · obtain ⟨e, e1, e2⟩ := l3 A hA
    by_cases hee : e = E p
    · subst hee
      obtain ⟨x, x1, x2⟩ := c3 A hA
      have hx20 := bt_lt c1 x1
      have hxe : x ≠ E p := by
        rintro rfl
        rw [e2] at x2; cases x2
      refine ⟨op_e x, (hb' _).mpr (Or.inr ⟨op_lt hx20, ?_, ?_⟩), ?_⟩
      · rw [op_op hx20]; exact x1
      · rw [op_op hx20]; exact hxe
      · rw [lit_op hx20, x2]; rfl
    · exact ⟨e, (hb' e).mpr (Or.inl ⟨e1, hee⟩), e2⟩
  · obtain ⟨z1, z2⟩ := hpos k h1 h2 h3
    exact l4 hl k (by omega) h2 z1
  · rcases l5 hl with hA | ⟨k0, m1, m2, m3, m4⟩
    · left
      intro k h1 h2 h3 h4
      obtain ⟨z1, z2⟩ := hpos k h1 h3 h4
      exact hA k (by omega) h2 h3 z1
    · right
      refine ⟨k0, by omega, m2, m3, fun k h1 h2 h3 => ?_⟩
      by_cases hkp : p ≤ k
      · exact m4 k h1 h2 (hpos k hkp h2 h3).1
      · -- then the level's places lie below: the only one that is blamed is told by the same rule
        rcases (hb' _).mp h3 with ⟨z1, -⟩ | ⟨z1, z2, z3⟩
        · exact m4 k h1 h2 z1
        · exfalso
          have hpk0 : p = k0 := m4 p (by omega) hp hb
          omega
  · -- the step's check
    have hnb : ¬ bt ((b &&& (sb (E p) ^^^ (-1 : Int32))) ||| cx_op (sx_fc u r &&& (sb (E p) ^^^ (-1 : Int32)))) (E p) := fun z => (hpos p (Nat.le_refl _) hp z).2 rfl
    have hKp : ¬ bt K (E p) := fun z => hnb (k4 p (Nat.le_refl _) hp z)
    have hKo : ¬ bt K (op_e (E p)) := fun z => by
      obtain ⟨k, h1, h2⟩ := k2 _ z
      have hkn : bt (sx_kn u) (E p) := (V.2.2.2.2.2.1 _).mpr ⟨p, hp, rfl⟩
      exact se_co V hkn ((V.2.2.2.2.2.1 _).mpr ⟨k, h1, h2⟩)
    have hot : ∀ x, bt (sx_fc u r) x → x ≠ E p → bt K (op_e x) := fun x x1 x2 => by
      have hx20 := bt_lt c1 x1
      refine k3 _ ((hb' _).mpr (Or.inr ⟨op_lt hx20, ?_, ?_⟩))
      · rw [op_op hx20]; exact x1
      · rw [op_op hx20]; exact x2
    have hfo : cx_fo (sx_fc u r) K = (K ||| sb (E p)) := by
      rcases fo_cases c1 k1 with ⟨-, z⟩ | ⟨-, e, e1, e2, e3⟩ | ⟨e, e0, e1, e2, e3, e4, e5⟩
      · exact absurd (z _ r3) hKo
      · have hee : e = E p := Classical.byContradiction fun z => e2 (hot e e1 z)
        subst hee
        rcases e3 with z | ⟨e', z1, z2, z3⟩
        · exact absurd z hKp
        · exact absurd (hot e' z2 z1) z3
      · have hee : e = E p := Classical.byContradiction fun z => e2 (hot e e1 z)
        subst hee
        exact e5
    have hK' : b20 (K ||| sb (E p)) := b20_or k1 (b20_sb hE)
    rw [sx_sl.eq_2]
    have e0 : (sx_fh (se_h u (upd fh hc (sx_fr u p)) (hc + 1)) hc).toNatClampNeg = r := by
      show (upd fh hc (sx_fr u p) hc).toNatClampNeg = r
      rw [pk_us]; exact hrc
    have e1 : sx_fc (se_h u (upd fh hc (sx_fr u p)) (hc + 1)) r = sx_fc u r := rfl
    rw [e0, e1, hfo, if_pos (b20_pos hK').2.2, sl_e (fh := fh) (hc := hc) hc _ (fun i hi => pk_un (by omega))]
    refine l7 _ hK' (fun e he => ?_) (fun e he => ?_) (fun k h1 h2 h3 => ?_)
    · rcases bt_or.mp he with z | z
      · exact k2 e z
      · rw [bt_sb (by omega)] at z
        exact ⟨p, hp, z.symm⟩
    · by_cases hee : e = E p
      · exact bt_or.mpr (Or.inr ((bt_sb (by omega)).mpr hee))
      · exact bt_or.mpr (Or.inl (k3 e ((hb' e).mpr (Or.inl ⟨he, hee⟩))))
    · rcases bt_or.mp h3 with z | z
      · exact (hpos k (by omega) h2 (k4 k (by omega) h2 z)).1
      · rw [bt_sb (by omega)] at z
        have := se_inj V h2 hp z
        omega
theorem se_lr (V : se_V v n0 fc0 u E D) (hz : sx_sz u ≤ 2072) : ∀ (i : Nat) (b : Int32) (fh : Nat → Int32) (hc : Nat), i ≤ sx_ts u → se_L n0 fc0 u E D i b fh hc → ∃ (b' : Int32) (fh' : Nat → Int32) (hc' : Nat), sx_lr i b (se_h u fh hc) = (cx_op b', se_h u fh' hc') ∧ se_L n0 fc0 u E D 0 b' fh' hc' := by
  intro i
  induction i with
  | zero => intro b fh hc _ L; exact ⟨b, fh, hc, rfl, L⟩
  | succ p ih =>
    intro b fh hc hp L
    have hft : sx_ft u p = sb (E p) := (V.2.2.2.1 p (by omega)).1
    have hE := (V.2.2.2.1 p (by omega)).2.1
    have hbt : (b &&& sx_ft u p) = 0 ↔ ¬ bt b (E p) := by
      rw [bt_0]
      constructor
      · intro h z
        exact h (E p) (bt_and.mpr ⟨z, by rw [hft, bt_sb (by omega)]⟩)
      · intro h e he
        obtain ⟨z1, z2⟩ := bt_and.mp he
        rw [hft, bt_sb (by omega)] at z2
        subst z2
        exact h z1
    rw [sx_lr.eq_2]
    show ∃ b' fh' hc', (if (b &&& sx_ft u p) = 0 then sx_lr p b (se_h u fh hc) else if sx_ke u p b = true then sx_lr p b (se_h u fh hc) else if hc < 11 then sx_lr p ((b &&& (sx_ft u p ^^^ (-1 : Int32))) ||| cx_op (sx_fc u (sx_fr u p).toNatClampNeg &&& (sx_ft u p ^^^ (-1 : Int32)))) (se_h u (upd fh hc (sx_fr u p)) (hc + 1)) else sx_lr p b (se_h u fh hc)) = (cx_op b', se_h u fh' hc') ∧ _
    by_cases h1 : (b &&& sx_ft u p) = 0
    · rw [if_pos h1]
      exact ih b fh hc (by omega) (se_L_s V (by omega) L (Or.inl (hbt.mp h1)))
    rw [if_neg h1]
    have hb : bt b (E p) := Classical.byContradiction fun z => h1 (hbt.mpr z)
    by_cases h2 : sx_ke u p b = true
    · rw [if_pos h2]
      exact ih b fh hc (by omega) (se_L_s V (by omega) L (Or.inr h2))
    rw [if_neg h2]
    have hh : hc < 11 := by
      have h3 := L.2.2.2.2.2.1.2
      have h4 := se_ts V
      have h5 := V.1.2.1
      omega
    rw [if_pos hh]
    exact ih _ _ _ (by omega) (se_L_r V (by omega) hz L hb h2)
end
