theorem lt_bit : ∀ (i x y : Nat), x.testBit i = false → y.testBit i = true → (∀ j, i < j → x.testBit j = y.testBit j) → x < y := by
  intro i
  induction i with
  | zero =>
    intro x y h1 h2 h3
    rw [Nat.testBit_zero] at h1 h2
    have h1 := of_decide_eq_false h1
    have h2 := of_decide_eq_true h2
    have h4 : x / 2 = y / 2 := by
      apply Nat.eq_of_testBit_eq
      intro j
      rw [Nat.testBit_div_two, Nat.testBit_div_two]
      exact h3 (j + 1) (by omega)
    omega
  | succ i ih =>
    intro x y h1 h2 h3
    have := ih (x / 2) (y / 2) (by rw [Nat.testBit_div_two]; exact h1) (by rw [Nat.testBit_div_two]; exact h2) (fun j hj => by
      rw [Nat.testBit_div_two, Nat.testBit_div_two]
      exact h3 (j + 1) (by omega))
    omega
theorem lit_e {A : Nat → Bool} {j : Nat} (hj : j ≤ 20) (h10 : j ≠ 10) : lit A (cl_e j) = as_l A j := by
  unfold lit cl_e as_l
  by_cases h : 10 < j
  · rw [if_pos h, if_pos h, if_pos (by omega)]
  · rw [if_neg h, if_neg h, if_neg (by omega), show 19 - j - 10 = 9 - j by omega]
theorem lj_inj : ∀ i, i < 21 → ∀ j, j < 21 → nI i - 10 = nI j - 10 → i = j := by decide
section
variable {v : Nat} {ls : List Int32} {cs : fo_C}
theorem li_of (hv : v ≤ 10) (h : ∀ y, y ∈ ls → fo_l v y) : li_G ls := fun y hy => by
  obtain ⟨j, b1, b2, b3, -⟩ := fo_l_j hv (h y hy)
  exact ⟨j, b1, b2, b3⟩
theorem mask_v (hv : v ≤ 10) (h : ∀ y, y ∈ ls → fo_l v y) {e : Nat} (he : bt (cl_mask ls) e) : e % 10 < v := by
  obtain ⟨j, a1, a2, a3, a4⟩ := (mask_bit (li_of hv h)).mp he
  obtain ⟨j', b1, b2, b3, b4, b5⟩ := fo_l_j hv (h _ a3)
  have hjj := lj_inj j (by omega) j' (by omega) b2
  subst hjj
  rw [← a4]
  unfold cl_e
  split <;> omega
theorem mask_sat (hv : v ≤ 10) (h : ∀ y, y ∈ ls → fo_l v y) {A : Nat → Bool} : sat_m A (cl_mask ls) ↔ ls.any (as_y A) = true := by
  rw [List.any_eq_true]
  constructor
  · rintro ⟨e, e1, e2⟩
    obtain ⟨j, a1, a2, a3, a4⟩ := (mask_bit (li_of hv h)).mp e1
    refine ⟨nI j - 10, a3, ?_⟩
    rw [as_y_j a1, ← lit_e a1 a2, a4]
    exact e2
  · rintro ⟨y, y1, y2⟩
    obtain ⟨j, b1, rfl, b3, -⟩ := fo_l_j hv (h y y1)
    refine ⟨cl_e j, (mask_bit (li_of hv h)).mpr ⟨j, b1, b3, y1, rfl⟩, ?_⟩
    rw [lit_e b1 b3, ← as_y_j b1]
    exact y2
def fc_S (cs : fo_C) (fc : Nat → Int32) : Prop := ∀ (i : Nat) (x : Int32 × List Int32), cs[i]? = some x → fc i = cl_mask x.2
theorem fc_ok (hv : v ≤ 10) (hg : fo_gd v cs) {fc : Nat → Int32} (hf : fc_S cs fc) : ∀ r, r < cs.length → b20 (fc r) ∧ ∀ e, bt (fc r) e → e % 10 < v := fun r hr => by
  rw [hf r cs[r] (List.getElem?_eq_getElem hr)]
  have h := hg cs[r] (List.getElem_mem hr)
  exact ⟨mask_lt (li_of hv h), fun e he => mask_v hv h he⟩
theorem fc_sat (hv : v ≤ 10) (hg : fo_gd v cs) {fc : Nat → Int32} (hf : fc_S cs fc) {A : Nat → Bool} : sat_F cs.length fc A ↔ as_Q cs A = true := by
  unfold as_Q
  rw [List.all_eq_true]
  constructor
  · intro h x hx
    obtain ⟨i, hi, rfl⟩ := List.mem_iff_getElem.mp hx
    have := h i hi
    rw [hf i cs[i] (List.getElem?_eq_getElem hi)] at this
    exact (mask_sat hv (hg cs[i] hx)).mp this
  · intro h r hr
    rw [hf r cs[r] (List.getElem?_eq_getElem hr)]
    exact (mask_sat hv (hg cs[r] (List.getElem_mem hr))).mpr (h cs[r] (List.getElem_mem hr))
theorem as_Q_e (hv : v ≤ 10) (hg : fo_gd v cs) {A B : Nat → Bool} (h : ∀ x, x < v → A x = B x) (hA : as_Q cs A = true) : as_Q cs B = true := by
  unfold as_Q at hA ⊢
  rw [List.all_eq_true] at hA ⊢
  intro x hx
  have h1 := hA x hx
  rw [List.any_eq_true] at h1 ⊢
  obtain ⟨y, y1, y2⟩ := h1
  refine ⟨y, y1, ?_⟩
  obtain ⟨j, b1, rfl, b3, b4, b5⟩ := fo_l_j hv (hg x hx y y1)
  rw [as_y_j b1] at y2 ⊢
  unfold as_l at y2 ⊢
  by_cases hj : 10 < j
  · rw [if_pos hj] at y2 ⊢
    rw [← h _ (by omega)]; exact y2
  · rw [if_neg hj] at y2 ⊢
    rw [← h _ (by omega)]; exact y2
end
theorem as_num (A : Nat → Bool) : ∀ v, ∃ a, a < 2 ^ v ∧ ∀ k, k < v → as_g v a k = A k := by
  intro v
  induction v with
  | zero => exact ⟨0, by decide, fun k hk => absurd hk (Nat.not_lt_zero _)⟩
  | succ v ih =>
    obtain ⟨a, a1, a2⟩ := ih
    have hp : 2 ^ (v + 1) = 2 * 2 ^ v := by rw [Nat.pow_succ]; omega
    refine ⟨2 * a + (if A v = true then 1 else 0), ?_, fun k hk => ?_⟩
    · rw [hp]
      split <;> omega
    · unfold as_g
      by_cases hkv : k = v
      · subst hkv
        rw [show k + 1 - 1 - k = 0 by omega, Nat.testBit_zero]
        cases hA : A k <;> simp <;> omega
      · have h1 := a2 k (by omega)
        unfold as_g at h1
        rw [show v + 1 - 1 - k = (v - 1 - k) + 1 by omega, Nat.testBit_succ]
        have e2 : (2 * a + (if A v = true then 1 else 0)) / 2 = a := by split <;> omega
        rw [e2]
        simp only [show k < v by omega, decide_true, Bool.true_and] at h1
        simp only [show k < v + 1 by omega, decide_true, Bool.true_and]
        exact h1
theorem lf_e (S : Nat → Bool) : ∀ (d a : Nat), (mo_lf S d a = -1 ∧ ∀ i, i < d → S (a + i) = false) ∨ ∃ i, i < d ∧ mo_lf S d a = nI (a + i) ∧ S (a + i) = true ∧ ∀ i', i' < i → S (a + i') = false := by
  intro d
  induction d with
  | zero => intro a; exact Or.inl ⟨rfl, fun i hi => absurd hi (Nat.not_lt_zero _)⟩
  | succ d ih =>
    intro a
    rw [mo_lf.eq_2]
    by_cases h : S a = true
    · rw [if_pos h]
      exact Or.inr ⟨0, by omega, rfl, h, fun i' z => absurd z (Nat.not_lt_zero _)⟩
    · rw [if_neg h]
      have hf := Bool.eq_false_iff.mpr h
      rcases ih (a + 1) with ⟨h1, h2⟩ | ⟨i, i1, i2, i3, i4⟩
      · refine Or.inl ⟨h1, fun i hi => ?_⟩
        cases i with
        | zero => exact hf
        | succ i => rw [show a + (i + 1) = a + 1 + i by omega]; exact h2 i (by omega)
      · refine Or.inr ⟨i + 1, by omega, by rw [show a + (i + 1) = a + 1 + i by omega]; exact i2, by rw [show a + (i + 1) = a + 1 + i by omega]; exact i3, fun i' hi' => ?_⟩
        cases i' with
        | zero => exact hf
        | succ i' => rw [show a + (i' + 1) = a + 1 + i' by omega]; exact i4 i' (by omega)
/-- both find the same -/
theorem sv_same {v : Nat} {cs : fo_C} {ma lt fc : Nat → Int32} {T : sx_T} (hv : v ≤ 10) (hg : fo_gd v cs) (hf : fc_S cs fc) (hs : mo_sb 0 cs.length (cs.map (·.2)) ma lt) (hE : se_E v cs.length fc T) : (sx_sa T = true ∧ ∃ a0, a0 < 2 ^ v ∧ mo_lf (mo_sf ma lt (nI v) cs.length) (2 ^ v) 0 = nI a0 ∧ ∀ x, x < v → (a0.testBit (v - 1 - x) = true ↔ bt (sx_kn T) x)) ∨ (sx_sa T = false ∧ mo_lf (mo_sf ma lt (nI v) cs.length) (2 ^ v) 0 = -1 ∧ sx_re T = true ∧ sx_sh T = true) := by
  have hS : ∀ a, a < 2 ^ v → mo_sf ma lt (nI v) cs.length a = as_Q cs (as_g v a) := fun a ha => sf_same hv ha hg hs
  obtain ⟨-, hE⟩ := hE
  rcases hE with ⟨h1, A0, h2, h3, h4⟩ | ⟨h1, h2, h3, h4⟩
  · left
    refine ⟨h1, ?_⟩
    obtain ⟨a0, b1, b2⟩ := as_num A0 v
    have hs0 : mo_sf ma lt (nI v) cs.length a0 = true := by
      rw [hS a0 b1]
      exact as_Q_e hv hg (fun x hx => (b2 x hx).symm) ((fc_sat hv hg hf).mp h3)
    have hbit : ∀ x, x < v → a0.testBit (v - 1 - x) = A0 x := fun x hx => by
      have := b2 x hx
      unfold as_g at this
      simpa [hx] using this
    refine ⟨a0, b1, ?_, fun x hx => by rw [hbit x hx]; exact h2 x hx⟩
    rcases lf_e (mo_sf ma lt (nI v) cs.length) (2 ^ v) 0 with ⟨-, c2⟩ | ⟨a1, c1, c2, c3, c4⟩
    · have := c2 a0 b1
      rw [Nat.zero_add, hs0] at this
      cases this
    · rw [Nat.zero_add] at c2 c3
      rw [c2]
      congr 1
      rcases Nat.lt_trichotomy a1 a0 with z | z | z
      · exfalso
        have hb : as_Q cs (as_g v a1) = true := by rw [← hS a1 c1]; exact c3
        have hbit1 : ∀ x, x < v → a1.testBit (v - 1 - x) = as_g v a1 x := fun x hx => by unfold as_g; simp [hx]
        have hhi : ∀ (a j : Nat), a < 2 ^ v → v ≤ j → a.testBit j = false := fun a j h5 h6 => Nat.testBit_lt_two_pow (Nat.lt_of_lt_of_le h5 (Nat.pow_le_pow_right (by decide) h6))
        rcases h4 _ ((fc_sat hv hg hf).mpr hb) with h5 | ⟨x, x1, x2, x3, x4⟩
        · have : a1 = a0 := by
            apply Nat.eq_of_testBit_eq
            intro j
            by_cases hj : j < v
            · have h6 := h5 (v - 1 - j) (by omega)
              rw [← hbit1 _ (by omega), ← hbit _ (by omega), show v - 1 - (v - 1 - j) = j by omega] at h6
              exact h6
            · rw [hhi a1 j c1 (by omega), hhi a0 j b1 (by omega)]
          omega
        · have : a0 < a1 := by
            refine lt_bit (v - 1 - x) _ _ ?_ ?_ (fun j hj => ?_)
            · rw [hbit x x1]; exact x3
            · rw [hbit1 x x1]; exact x2
            · by_cases hjv : j < v
              · have h6 := x4 (v - 1 - j) (by omega)
                rw [← hbit1 _ (by omega), ← hbit _ (by omega), show v - 1 - (v - 1 - j) = j by omega] at h6
                exact h6.symm
              · rw [hhi a1 j c1 (by omega), hhi a0 j b1 (by omega)]
          omega
      · exact z
      · have := c4 a0 z
        rw [Nat.zero_add, hs0] at this
        cases this
  · right
    refine ⟨h1, ?_, h2, h3⟩
    rcases lf_e (mo_sf ma lt (nI v) cs.length) (2 ^ v) 0 with ⟨c1, -⟩ | ⟨a1, c1, c2, c3, c4⟩
    · exact c1
    · rw [Nat.zero_add, hS a1 c1] at c3
      exact absurd ((fc_sat hv hg hf).mpr c3) (h4 _)
/-- the search as the calls leave it -/
def lw_X (v : Nat) (cs : fo_C) (t : sx_T) : Prop := fo_gd v cs ∧ ∃ (fc : Nat → Int32) (t1 : sx_T), fc_S cs fc ∧ (t = sx_bg fc cs.length v t1 ∨ t = sx_F 22539 (sx_bg fc cs.length v t1))
theorem lw_X_F {v : Nat} {cs : fo_C} {t : sx_T} (hv : v ≤ 10) (hn : cs.length ≤ 24) (h : lw_X v cs t) : lw_X v cs (sx_F 22539 t) ∧ ∃ fc, fc_S cs fc ∧ se_E v cs.length fc (sx_F 22539 t) := by
  obtain ⟨hg, fc, t1, hf, ht⟩ := h
  have hE := se_start (t := t1) hv hn (fc_ok hv hg hf)
  have e : sx_F 22539 t = sx_F 22539 (sx_bg fc cs.length v t1) := by
    rcases ht with z | z
    · rw [z]
    · rw [z]
      exact fs_fi hE.1 22539
  rw [e]
  exact ⟨⟨hg, fc, t1, hf, Or.inr rfl⟩, fc, hf, hE⟩
section
variable {v : Nat} {cs : fo_C} {t : sx_T} {ma lt : Nat → Int32}
theorem solve_same (hv : v ≤ 10) (hn : cs.length ≤ 24) (h : lw_X v cs t) (hs : mo_sb 0 cs.length (cs.map (·.2)) ma lt) : hw_z (sx_sa (sx_F 22539 t)) = hw_z (!decide (mo_lf (mo_sf ma lt (nI v) cs.length) (2 ^ v) 0 < 0)) := by
  obtain ⟨-, fc, hf, hE⟩ := lw_X_F hv hn h
  have hp : 2 ^ v ≤ 2 ^ 10 := Nat.pow_le_pow_right (by decide) hv
  rcases sv_same hv h.1 hf hs hE with ⟨h1, a0, b1, b2, -⟩ | ⟨h1, b2, -⟩
  · rw [h1, b2, decide_eq_false (nI_pos (by omega))]
    rfl
  · rw [h1, b2]
    rfl
theorem proves_same (hv : v ≤ 10) (hn : cs.length ≤ 24) (h : lw_X v cs t) (hs : mo_sb 0 cs.length (cs.map (·.2)) ma lt) : hw_z (!(sx_sa (sx_F 22539 t)) && (sx_re (sx_F 22539 t) && sx_sh (sx_F 22539 t))) = hw_z (decide (mo_lf (mo_sf ma lt (nI v) cs.length) (2 ^ v) 0 < 0)) := by
  obtain ⟨-, fc, hf, hE⟩ := lw_X_F hv hn h
  have hp : 2 ^ v ≤ 2 ^ 10 := Nat.pow_le_pow_right (by decide) hv
  rcases sv_same hv h.1 hf hs hE with ⟨h1, a0, b1, b2, -⟩ | ⟨h1, b2, b3, b4⟩
  · rw [h1, b2, decide_eq_false (nI_pos (by omega))]
    rfl
  · rw [h1, b2, b3, b4]
    rfl
theorem value_no (h : mo_lf (mo_sf ma lt (nI v) cs.length) (2 ^ v) 0 = mo_lf (mo_sf ma lt (nI v) cs.length) (2 ^ v) 0) {x : Int32} (hx : x < 1 ∨ nI v < x) : (-1 : Int32) = (if tx_in x 1 (nI v) = true ∧ ¬ mo_lf (mo_sf ma lt (nI v) cs.length) (2 ^ v) 0 < 0 then (mo_lf (mo_sf ma lt (nI v) cs.length) (2 ^ v) 0 >>> ((nI v - x) &&& 31)) &&& (1 : Int32) else -1) := by
  rw [if_neg]
  rintro ⟨z, -⟩
  simp only [tx_in, Bool.and_eq_true, Bool.not_eq_true', decide_eq_false_iff_not] at z
  rcases hx with y | y
  · exact z.1 y
  · exact z.2 y
theorem value_same (hv : v ≤ 10) (hn : cs.length ≤ 24) (h : lw_X v cs t) (hs : mo_sb 0 cs.length (cs.map (·.2)) ma lt) {x : Int32} (hx : ¬ (x < 1 ∨ nI v < x)) : (if sx_sa (sx_F 22539 t) = true then (if (sx_kn (sx_F 22539 t) &&& cl_bit x) = 0 then (0 : Int32) else 1) else -1) = (if tx_in x 1 (nI v) = true ∧ ¬ mo_lf (mo_sf ma lt (nI v) cs.length) (2 ^ v) 0 < 0 then (mo_lf (mo_sf ma lt (nI v) cs.length) (2 ^ v) 0 >>> ((nI v - x) &&& 31)) &&& (1 : Int32) else -1) := by
  obtain ⟨-, fc, hf, hE⟩ := lw_X_F hv hn h
  have hp : 2 ^ v ≤ 2 ^ 10 := Nat.pow_le_pow_right (by decide) hv
  generalize sx_F 22539 t = T at hE ⊢
  rcases sv_same hv h.1 hf hs hE with ⟨h1, a0, b1, b2, b3⟩ | ⟨h1, b2, -⟩
  · have hx1 : ¬ x < 1 := fun z => hx (Or.inl z)
    have hx2 : ¬ nI v < x := fun z => hx (Or.inr z)
    have hx0 : ¬ x < 0 := fun z => hx1 (Int32.lt_trans z (by decide))
    obtain ⟨z, hz, rfl⟩ := nI_of hx0
    have hz1 : 1 ≤ z := by
      have := mt (nI_ltI (a := z) (b := 1) hz (by omega)).mpr hx1
      omega
    have hz2 : z ≤ v := by
      have := mt (nI_ltI (a := v) (b := z) (by omega) hz).mpr hx2
      omega
    have hin : tx_in (nI z) 1 (nI v) = true := by simp [tx_in, hx1, hx2]
    rw [b2, if_pos h1, if_pos (show tx_in (nI z) 1 (nI v) = true ∧ ¬ nI a0 < 0 from ⟨hin, nI_pos (by omega)⟩)]
    have sm : ∀ k, k < 32 → ((nI k).toBitVec.smod 32).toNat = k := by decide
    have c2 : ∀ v, v < 11 → ∀ z, z < 11 → z ≤ v → (nI v - nI z) &&& 31 = nI (v - z) := by decide
    have hq : a0 / 2 ^ (v - z) ≤ a0 := Nat.div_le_self _ _
    rw [c2 v (by omega) z (by omega) hz2, pk_shrN (by omega) (nI (v - z)) (v - z) (sm _ (by omega)), pk_andN (by omega) 1 (by decide)]
    obtain ⟨d1, -⟩ := dv_bit z (by omega) hz1
    rw [d1]
    have hb := b3 (z - 1) (by omega)
    rw [show v - 1 - (z - 1) = v - z by omega, Nat.testBit_eq_decide_div_mod_eq, decide_eq_true_eq] at hb
    have hk : (sx_kn T &&& sb (z - 1)) = 0 ↔ ¬ bt (sx_kn T) (z - 1) := by
      rw [bt_0]
      constructor
      · intro h9 h10
        exact h9 (z - 1) (bt_and.mpr ⟨h10, (bt_sb (by omega)).mpr rfl⟩)
      · intro h9 e he
        obtain ⟨y1, y2⟩ := bt_and.mp he
        rw [bt_sb (by omega)] at y2
        rw [y2] at y1
        exact h9 y1
    by_cases hbt : bt (sx_kn T) (z - 1)
    · rw [if_neg (fun y => hk.mp y hbt), show 2 ^ 1 = 2 from rfl, hb.mpr hbt]
      rfl
    · have h0 : a0 / 2 ^ (v - z) % 2 = 0 := by
        rcases Nat.mod_two_eq_zero_or_one (a0 / 2 ^ (v - z)) with y | y
        · exact y
        · exact absurd (hb.mp y) hbt
      rw [if_pos (hk.mpr hbt), show 2 ^ 1 = 2 from rfl, h0]
      rfl
  · rw [h1, if_neg (by decide), if_neg]
    rintro ⟨-, z⟩
    rw [b2] at z
    exact z (by decide)
end
