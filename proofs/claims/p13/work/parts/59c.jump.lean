theorem op_2 {b : Int32} (h : b20 b) : cx_op (cx_op b) = b := by
  apply bt_ext
  intro e
  rw [bt_op b20_op, bt_op h]
  constructor
  · rintro ⟨h1, h2, h3⟩
    rw [op_op h1] at h3
    exact h3
  · intro h1
    have h2 := bt_lt h h1
    exact ⟨h2, op_lt h2, by rw [op_op h2]; exact h1⟩
theorem op_0 : cx_op 0 = 0 := by decide
theorem se_jt {t : sx_T} {o : Int32} : ∀ (d j : Nat), j ≤ sx_jt t o d j ∧ sx_jt t o d j ≤ j + d ∧ (sx_jt t o d j < j + d → (o &&& (sx_fk t (sx_jt t o d j + 1) ^^^ (-1 : Int32))) = 0) := by
  intro d
  induction d with
  | zero => intro j; exact ⟨Nat.le_refl _, Nat.le_refl _, fun z => absurd z (Nat.lt_irrefl _)⟩
  | succ d ih =>
    intro j
    rw [sx_jt.eq_2]
    by_cases hc : (o &&& (sx_fk t (j + 1) ^^^ (-1 : Int32))) = 0
    · rw [if_pos hc]
      exact ⟨Nat.le_refl _, by omega, fun _ => hc⟩
    · rw [if_neg hc]
      obtain ⟨a1, a2, a3⟩ := ih (j + 1)
      exact ⟨by omega, by omega, fun z => a3 (by omega)⟩
theorem jump_n {M : Int32} {E : Nat → Nat} {n : Nat} (h1 : ∀ i, i < n → E i < 20) (h2 : ∀ i j, i < n → j < n → E i = E j → i = j) (h3 : ∀ e, bt M e ↔ ∃ i, i < n ∧ E i = e) : pc_n 32 (cx_U M) = n := by
  obtain ⟨M', m1, m2⟩ := ph_M (v := 32) (f := E) n (fun i hi => by have := h1 i hi; omega) h2
  have e : cx_U M = M' := by
    apply Nat.eq_of_testBit_eq
    intro x
    have h4 := h3 x
    have h5 := m2 x
    unfold bt at h4
    cases hz1 : (cx_U M).testBit x <;> cases hz2 : M'.testBit x
    · rfl
    · rw [hz1] at h4; exact absurd (h4.mpr (h5.mp hz2)) (by decide)
    · rw [hz2] at h5; exact absurd (h5.mpr (h4.mp hz1)) (by decide)
    · rfl
  rw [e]; exact m1
/-- the state behind a jump, with the learned clause -/
def se_y (u : sx_T) (fh : Nat → Int32) (hc J nn : Nat) (x : Int32) : sx_T := (upd (sx_fc u) (sx_sz u) x, sx_sz u + 1, sx_vv u, sx_fi u, sx_sa u, sx_re u, sx_sh u, sx_fk u (J + 1), sx_ft u, sx_fr u, nn, sx_fk u, J, fh, hc)
section
variable {v n0 : Nat} {fc0 : Nat → Int32} {u : sx_T} {E D : Nat → Nat}
theorem se_yV (V : se_V v n0 fc0 u E D) {fh : Nat → Int32} {hc J : Nat} {b : Int32} (L : se_L n0 fc0 u E D 0 b fh hc) (hl : 1 ≤ sx_lv u) (hJ : J < sx_lv u) (ho : ∀ e, bt b e → bt (sx_fk u (sx_lv u)) e → bt (sx_fk u (J + 1)) e) : se_V v n0 fc0 (se_y u fh hc J (D (J + 1)) (cx_op b)) E D ∧ ¬ cx_fo (cx_op b) (sx_fk u (J + 1)) = -2 := by
  have V0 := V
  obtain ⟨⟨v1, v2, v3⟩, v4, v5, v6, v7, v8, v9, v10, v11, v12⟩ := V
  obtain ⟨l1, l2, l3, l4, l5, l6, l7⟩ := L
  obtain ⟨j1, j2, j3⟩ := v9 (J + 1) (by omega) (by omega)
  have hfk20 : b20 (sx_fk u (J + 1)) := by
    apply Nat.lt_pow_two_of_testBit
    intro e he
    cases hz : (cx_U (sx_fk u (J + 1))).testBit e with
    | false => rfl
    | true =>
      obtain ⟨i, hi, rfl⟩ := (j3 e).mp hz
      have := (v6 i (by omega)).2.1
      omega
  refine ⟨⟨⟨v1, v2, by show n0 ≤ sx_sz u + 1; omega⟩, fun r hr => ?_, fun r hr => ?_, fun i hi => v6 i (Nat.lt_trans hi j1), fun i j hi hj h => v7 i j (Nat.lt_trans hi j1) (Nat.lt_trans hj j1) h, j3, fun l h1 h2 => ?_, fun l m h1 h2 h3 => v10 l m h1 h2 (Nat.le_of_lt (Nat.lt_of_le_of_lt h3 hJ)), fun i hi hd => ?_, fun i hi hd => ?_⟩, fun hf => ?_⟩
  · have hr : r < sx_sz u + 1 := hr
    show se_c v n0 fc0 (upd (sx_fc u) (sx_sz u) (cx_op b) r)
    by_cases hr2 : r = sx_sz u
    · rw [hr2, pk_us]
      refine ⟨b20_op, fun e he => ?_, fun A hA => ?_⟩
      · obtain ⟨h1, h2⟩ := (bt_op l1).mp he
        obtain ⟨k, k1, k2⟩ := l2 _ h2
        have := (v6 k k1).2.2
        rw [k2, op_mod h1] at this
        exact this
      · obtain ⟨e, e1, e2⟩ := l3 A hA
        have h20 := bt_lt l1 e1
        refine ⟨op_e e, (bt_op l1).mpr ⟨op_lt h20, by rw [op_op h20]; exact e1⟩, ?_⟩
        rw [lit_op h20, e2]; rfl
    · rw [pk_un hr2]
      exact v4 r (by omega)
  · show upd (sx_fc u) (sx_sz u) (cx_op b) r = fc0 r
    rw [pk_un (by omega)]
    exact v5 r hr
  · have h2 : l ≤ J := h2
    obtain ⟨d1, d2, d3⟩ := v9 l h1 (by omega)
    exact ⟨v10 l (J + 1) h1 (by omega) (by omega), d2, d3⟩
  · have hi : i < D (J + 1) := hi
    obtain ⟨⟨l, x1, x2, x3⟩, x4, x5⟩ := v11 i (by omega) hd
    refine ⟨⟨l, x1, ?_, x3⟩, x4, x5⟩
    show l ≤ J
    rcases Nat.lt_or_ge J l with z | z
    · exfalso
      by_cases hlJ : l = J + 1
      · rw [hlJ] at x3; omega
      · have := v10 (J + 1) l (by omega) (by omega) x2
        omega
    · exact z
  · have hi : i < D (J + 1) := hi
    obtain ⟨r', x1, x2, x3, x4⟩ := v12 i (by omega) hd
    refine ⟨r', by show r' < sx_sz u + 1; omega, x2, ?_, fun x hx hxe => ?_⟩
    · show bt (upd (sx_fc u) (sx_sz u) (cx_op b) r') (E i)
      rw [pk_un (by omega)]; exact x3
    · have hx : bt (upd (sx_fc u) (sx_sz u) (cx_op b) r') x := hx
      rw [pk_un (by omega)] at hx
      exact x4 x hx hxe
  · -- the learned clause is unit, or false
    have key : ∀ e, bt (cx_op b) e → ¬ bt (sx_fk u (J + 1)) (op_e e) → e < 20 ∧ ∃ k, D (sx_lv u) ≤ k ∧ k < sx_ts u ∧ E k = op_e e ∧ bt b (E k) := by
      intro e he hn
      obtain ⟨h1, h2⟩ := (bt_op l1).mp he
      obtain ⟨k, k1, k2⟩ := l2 _ h2
      refine ⟨h1, k, ?_, k1, k2, by rw [k2]; exact h2⟩
      rcases Nat.lt_or_ge k (D (sx_lv u)) with z | z
      · exact absurd (ho _ h2 (((v9 (sx_lv u) hl (Nat.le_refl _)).2.2 _).mpr ⟨k, z, k2⟩)) hn
      · exact z
    have one : ∀ k k', D (sx_lv u) ≤ k → k < sx_ts u → bt b (E k) → D (sx_lv u) ≤ k' → k' < sx_ts u → bt b (E k') → k = k' := by
      intro k k' h1 h2 h3 h4 h5 h6
      rcases l5 hl with hA | ⟨k0, m1, m2, m3, m4⟩
      · exact absurd h3 (hA k (Nat.zero_le _) h1 h2)
      · rw [m4 k h1 h2 h3, m4 k' h4 h5 h6]
    rcases fo_cases (b20_op (a := b)) hfk20 with ⟨z, -⟩ | ⟨-, e, e1, e2, e3⟩ | ⟨e, e0, e1, e2, e3, e4, e5⟩
    · rw [hf] at z; exact absurd z (by decide)
    · obtain ⟨h1, k, k1, k2, k3, k4⟩ := key e e1 e2
      rcases e3 with z | ⟨e', z1, z2, z3⟩
      · obtain ⟨i, hi, he⟩ := (j3 e).mp z
        have hkn : bt (sx_kn u) (E k) := (v8 _).mpr ⟨k, k2, rfl⟩
        refine se_co V0 hkn ?_
        rw [k3, op_op h1]
        exact (v8 _).mpr ⟨i, by omega, he⟩
      · obtain ⟨h1', k', k1', k2', k3', k4'⟩ := key e' z2 z3
        have hkk := one k k' k1 k2 k4 k1' k2' k4'
        subst hkk
        have h9 : op_e e = op_e e' := k3.symm.trans k3'
        have h10 := congrArg op_e h9
        rw [op_op h1, op_op h1'] at h10
        exact z1 h10.symm
    · rw [hf] at e5
      exact absurd e5.symm (b20_pos (b20_or hfk20 (b20_sb e0))).2.1
/-- what resolve does at a conflict -/
theorem se_rs (V : se_V v n0 fc0 u E D) (hz : sx_sz u < 2072) {j : Nat} (hj : j < sx_sz u) (hc : ∀ e, bt (sx_fc u j) e → bt (sx_kn u) (op_e e)) : (sx_fi (sx_rs u j) = true ∧ sx_sa (sx_rs u j) = sx_sa u ∧ sx_re (sx_rs u j) = true ∧ sx_sh (sx_rs u j) = sx_sh u ∧ ∀ A, ¬ sat_F n0 fc0 A) ∨ (se_V v n0 fc0 (sx_rs u j) E D ∧ sx_ts (sx_rs u j) < sx_ts u ∧ sx_fr u (sx_ts (sx_rs u j)) = -1 ∧ sx_fr (sx_rs u j) = sx_fr u ∧ (sx_fi (sx_rs u j) = sx_fi u ∧ sx_sa (sx_rs u j) = sx_sa u ∧ sx_sh (sx_rs u j) = sx_sh u) ∧ sx_sz (sx_rs u j) = sx_sz u + 1 ∧ ∃ k, k < sx_sz (sx_rs u j) ∧ ¬ cx_fo (sx_fc (sx_rs u j) k) (sx_kn (sx_rs u j)) = -2) := by
  obtain ⟨b, fh, hcn, hlr, L⟩ := se_lr V (Nat.le_of_lt hz) (sx_ts u) _ _ _ (Nat.le_refl _) (se_L_0 V hj (Nat.le_of_lt hz) hc)
  have L0 := L
  obtain ⟨l1, l2, l3, l4, l5, l6, l7⟩ := L
  have hsl : sx_sl (se_h u fh hcn) hcn b = true := l7 b l1 l2 (fun e h => h) (fun k _ _ h => h)
  have hrs : sx_rs u j = sx_r2 (sx_sh1 (se_h u fh hcn) (sx_sh u)) (cx_op b) := by
    have e0 : sx_l0 u j = se_h u (upd (sx_fh u) 0 (nI j)) 1 := rfl
    unfold sx_rs
    rw [e0, hlr]
    show sx_r2 (sx_sh1 (se_h u fh hcn) (sx_sh u && sx_sl (se_h u fh hcn) hcn (cx_op (cx_op b)))) (cx_op b) = _
    rw [op_2 l1, hsl, Bool.and_true]
  have hb0 : cx_op b = 0 → b = 0 := fun z => by
    have := op_2 l1
    rw [z, op_0] at this
    exact this.symm
  have hlv0 : sx_lv u = 0 → b = 0 := fun z => bt_0.mpr (fun e he => by
    obtain ⟨k, k1, rfl⟩ := l2 e he
    exact l4 z k (Nat.zero_le _) k1 he)
  by_cases hfin : b = 0
  · left
    have hx : cx_op b = 0 := by rw [hfin]; exact op_0
    have he : sx_rs u j = sx_fin (sx_sh1 (se_h u fh hcn) (sx_sh u)) (cx_op b) := by
      rw [hrs]
      unfold sx_r2
      rw [if_pos (Or.inl hx)]
    rw [he]
    refine ⟨rfl, rfl, ?_, rfl, fun A hA => ?_⟩
    · show decide (cx_op b = 0) = true
      rw [hx]; rfl
    · obtain ⟨e, e1, -⟩ := l3 A hA
      rw [hfin] at e1
      exact bt_z e1
  right
  have hl : 1 ≤ sx_lv u := by
    rcases Nat.eq_zero_or_pos (sx_lv u) with z | z
    · exact absurd (hlv0 z) hfin
    · exact z
  obtain ⟨J, hJ⟩ : ∃ J, J = sx_jt (sx_sh1 (se_h u fh hcn) (sx_sh u)) (b &&& sx_fk u (sx_lv u)) (sx_lv u - 1) 0 := ⟨_, rfl⟩
  obtain ⟨jt1, jt2, jt3⟩ := se_jt (t := sx_sh1 (se_h u fh hcn) (sx_sh u)) (o := b &&& sx_fk u (sx_lv u)) (sx_lv u - 1) 0
  rw [← hJ] at jt1 jt2 jt3
  have ho : ∀ e, bt b e → bt (sx_fk u (sx_lv u)) e → bt (sx_fk u (J + 1)) e := by
    intro e e1 e2
    by_cases hJl : J < 0 + (sx_lv u - 1)
    · have h1 := jt3 hJl
      have h1 : ((b &&& sx_fk u (sx_lv u)) &&& (sx_fk u (J + 1) ^^^ (-1 : Int32))) = 0 := h1
      exact Classical.byContradiction fun z => bt_0.mp h1 e (bt_an.mpr ⟨bt_and.mpr ⟨e1, e2⟩, z⟩)
    · have h2 : J + 1 = sx_lv u := by omega
      rw [h2]; exact e2
  have hJl : J < sx_lv u := by omega
  obtain ⟨VY, hpend⟩ := se_yV V L0 hl hJl ho
  obtain ⟨d1, d2, d3⟩ := V.2.2.2.2.2.2.1 (J + 1) (by omega) (by omega)
  have hn : pc_n 32 (cx_U (sx_fk u (J + 1))) = D (J + 1) := jump_n (E := E) (fun i hi => (V.2.2.2.1 i (by omega)).2.1) (fun i j hi hj h => se_inj V (by omega) (by omega) h) d3
  have he : sx_rs u j = se_y u fh hcn J (D (J + 1)) (cx_op b) := by
    rw [hrs]
    unfold sx_r2
    have hcond : ¬ (cx_op b = 0 ∨ sx_lv (sx_sh1 (se_h u fh hcn) (sx_sh u)) = 0 ∨ ¬ sx_sz (sx_sh1 (se_h u fh hcn) (sx_sh u)) < 2072) := by
      rintro (z | z | z)
      · exact hfin (hb0 z)
      · have z : sx_lv u = 0 := z
        omega
      · exact z hz
    rw [if_neg hcond]
    unfold sx_jb
    rw [op_2 l1]
    have hJ2 : sx_jt (sx_sh1 (se_h u fh hcn) (sx_sh u)) (b &&& sx_fk (sx_sh1 (se_h u fh hcn) (sx_sh u)) (sx_lv (sx_sh1 (se_h u fh hcn) (sx_sh u)))) (sx_lv (sx_sh1 (se_h u fh hcn) (sx_sh u)) - 1) 0 = J := hJ.symm
    rw [hJ2]
    unfold sx_jx
    have hn2 : pc_n 32 (cx_U (sx_fk (sx_sh1 (se_h u fh hcn) (sx_sh u)) (J + 1))) = D (J + 1) := hn
    rw [hn2]
    rfl
  rw [he]
  refine ⟨VY, d1, d2, rfl, ⟨rfl, rfl, rfl⟩, rfl, sx_sz u, ?_, ?_⟩
  · show sx_sz u < sx_sz u + 1
    omega
  · show ¬ cx_fo (upd (sx_fc u) (sx_sz u) (cx_op b) (sx_sz u)) (sx_fk u (J + 1)) = -2
    rw [pk_us]
    exact hpend
end
