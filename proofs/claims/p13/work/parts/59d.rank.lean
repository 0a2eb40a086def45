/-- the place of a string of decided (false) and forced (true) among all of at most m signs -/
def rk (P : Nat → Bool) : Nat → Nat → Nat → Nat
  | 0, _, _ => 0
  | _ + 1, _, 0 => 0
  | m + 1, i, n + 1 => (if P i = true then 2 ^ (m + 1) else 1) + rk P m (i + 1) n
theorem two_p (m : Nat) : 2 ≤ 2 ^ (m + 1) := by
  rw [Nat.pow_succ]
  have := Nat.pow_le_pow_right (n := 2) (by decide) (Nat.zero_le m)
  omega
theorem rk_b {P : Nat → Bool} : ∀ (m i n : Nat), n ≤ m → rk P m i n + 2 ≤ 2 ^ (m + 1) := by
  intro m
  induction m with
  | zero => intro i n h; rw [rk.eq_1]; decide
  | succ m ih =>
    intro i n h
    have h2 := two_p m
    have h3 : 2 ^ (m + 1 + 1) = 2 * 2 ^ (m + 1) := by rw [Nat.pow_succ]; omega
    cases n with
    | zero => rw [rk.eq_2]; omega
    | succ n =>
      rw [rk.eq_3]
      have := ih (i + 1) n (by omega)
      split <;> omega
theorem rk_le {P P' : Nat → Bool} : ∀ (m i n n' : Nat), n ≤ n' → n' ≤ m → (∀ k, i ≤ k → k < i + n → P' k = P k) → rk P m i n ≤ rk P' m i n' := by
  intro m
  induction m with
  | zero => intro i n n' h1 h2 h3; rw [rk.eq_1, rk.eq_1]; exact Nat.le_refl _
  | succ m ih =>
    intro i n n' h1 h2 h3
    cases n with
    | zero => rw [rk.eq_2]; exact Nat.zero_le _
    | succ n =>
      obtain ⟨n2, rfl⟩ : ∃ n2, n' = n2 + 1 := ⟨n' - 1, by omega⟩
      rw [rk.eq_3, rk.eq_3, h3 i (Nat.le_refl _) (by omega)]
      have := ih (i + 1) n n2 (by omega) (by omega) (fun k h4 h5 => h3 k (by omega) (by omega))
      omega
theorem rk_lt {P P' : Nat → Bool} : ∀ (m i n n' : Nat), n < n' → n' ≤ m → (∀ k, i ≤ k → k < i + n → P' k = P k) → rk P m i n < rk P' m i n' := by
  intro m
  induction m with
  | zero => intro i n n' h1 h2; omega
  | succ m ih =>
    intro i n n' h1 h2 h3
    obtain ⟨n2, rfl⟩ : ∃ n2, n' = n2 + 1 := ⟨n' - 1, by omega⟩
    have hp := two_p m
    cases n with
    | zero =>
      rw [rk.eq_2, rk.eq_3]
      split <;> omega
    | succ n =>
      rw [rk.eq_3, rk.eq_3, h3 i (Nat.le_refl _) (by omega)]
      have := ih (i + 1) n n2 (by omega) (by omega) (fun k h4 h5 => h3 k (by omega) (by omega))
      omega
theorem rk_jump {P P' : Nat → Bool} : ∀ (m i n k : Nat), n < k → k ≤ m → (∀ x, i ≤ x → x < i + n → P' x = P x) → P (i + n) = false → P' (i + n) = true → rk P m i k < rk P' m i (n + 1) := by
  intro m
  induction m with
  | zero => intro i n k h1 h2; omega
  | succ m ih =>
    intro i n k h1 h2 h3 h4 h5
    obtain ⟨k2, rfl⟩ : ∃ k2, k = k2 + 1 := ⟨k - 1, by omega⟩
    cases n with
    | zero =>
      rw [Nat.add_zero] at h4 h5
      rw [rk.eq_3, rk.eq_3, h4, h5, if_neg (by decide), if_pos rfl]
      have := rk_b (P := P) m (i + 1) k2 (by omega)
      omega
    | succ n =>
      rw [rk.eq_3, rk.eq_3, h3 i (Nat.le_refl _) (by omega)]
      have := ih (i + 1) n k2 (by omega) (by omega) (fun x h6 h7 => h3 x (by omega) (by omega)) (by rw [show i + 1 + n = i + (n + 1) by omega]; exact h4) (by rw [show i + 1 + n = i + (n + 1) by omega]; exact h5)
      omega
/-- the trail's string -/
def fl (t : sx_T) : Nat → Bool := fun i => decide (¬ sx_fr t i = -1)
def fl1 (t : sx_T) : Nat → Bool := fun i => if i = sx_ts t then true else fl t i
def se_M (v : Nat) (t : sx_T) (R : Nat) : Prop := R ≤ rk (fl t) v 0 (sx_ts t) ∨ (sx_ts t < v ∧ (∃ k, k < sx_sz t ∧ ¬ cx_fo (sx_fc t k) (sx_kn t) = -2) ∧ R ≤ rk (fl1 t) v 0 (sx_ts t + 1))
/-- what the search has found -/
def se_E (v n0 : Nat) (fc0 : Nat → Int32) (T : sx_T) : Prop := sx_fi T = true ∧ ((sx_sa T = true ∧ ∃ A0 : Nat → Bool, (∀ x, x < v → (A0 x = true ↔ bt (sx_kn T) x)) ∧ sat_F n0 fc0 A0 ∧ ∀ A, sat_F n0 fc0 A → (∀ x, x < v → A x = A0 x) ∨ ∃ x, x < v ∧ A x = true ∧ A0 x = false ∧ ∀ y, y < x → A y = A0 y) ∨ (sx_sa T = false ∧ sx_re T = true ∧ sx_sh T = true ∧ ∀ A, ¬ sat_F n0 fc0 A))
theorem fs_fi {t : sx_T} (h : sx_fi t = true) : ∀ d, sx_fs d t = t := by
  intro d
  cases d with
  | zero => rfl
  | succ d => rw [sx_fs.eq_2, if_pos h]
section
variable {v n0 : Nat} {fc0 : Nat → Int32} {t u : sx_T} {E E' D : Nat → Nat}
theorem se_MR (hv : v ≤ 10) (hts : sx_ts t ≤ v) {R : Nat} (h : se_M v t R) : R ≤ 2046 := by
  have hp : 2 ^ (v + 1) ≤ 2 ^ 11 := Nat.pow_le_pow_right (by decide) (by omega)
  have hp : 2 ^ (v + 1) ≤ 2048 := hp
  rcases h with h | ⟨h1, -, h2⟩
  · have := rk_b (P := fl t) v 0 (sx_ts t) hts
    omega
  · have := rk_b (P := fl1 t) v 0 (sx_ts t + 1) (by omega)
    omega
theorem se_Xkn (V : se_V v n0 fc0 t E D) (VU : se_V v n0 fc0 u E' D) (X : se_X t u E E') (h : sx_ts u = sx_ts t) : sx_kn u = sx_kn t := by
  apply bt_ext
  intro e
  rw [V.2.2.2.2.2.1, VU.2.2.2.2.2.1, h]
  constructor
  · rintro ⟨i, hi, he⟩; exact ⟨i, hi, by rw [← (X.2.2.1 i hi).1]; exact he⟩
  · rintro ⟨i, hi, he⟩; exact ⟨i, hi, by rw [(X.2.2.1 i hi).1]; exact he⟩
theorem fl_X (X : se_X t u E E') : (∀ k, k < sx_ts t → fl u k = fl t k) ∧ ∀ k, sx_ts t ≤ k → k < sx_ts u → fl u k = true := by
  refine ⟨fun k hk => ?_, fun k h1 h2 => ?_⟩
  · unfold fl
    rw [(X.2.2.1 k hk).2]
  · unfold fl
    exact decide_eq_true (X.2.2.2 k h1 h2)
/-- the end: all variables are known, no clause is false -/
theorem se_sat (V : se_V v n0 fc0 u E D) (hts : v ≤ sx_ts u) (hst : ∀ k, k < sx_sz u → cx_fo (sx_fc u k) (sx_kn u) = -2) : se_E v n0 fc0 (sx_dn u) := by
  have hle := se_ts V
  have V0 := V
  obtain ⟨⟨v1, v2, v3⟩, v4, v5, v6, v7, v8, v9, v10, v11, v12⟩ := V
  have hall : ∀ y, y < v → ∃ i, i < sx_ts u ∧ E i % 10 = y := fun y hy => Classical.byContradiction fun z => by
    have : sx_ts u + 1 ≤ v := ph (f := fun i => if i = sx_ts u then y else E i % 10) (fun i hi => by
      show (if i = sx_ts u then y else E i % 10) < v
      split
      · exact hy
      · exact (v6 i (by omega)).2.2) (fun i j hi hj h => by
      have h : (if i = sx_ts u then y else E i % 10) = (if j = sx_ts u then y else E j % 10) := h
      by_cases hi2 : i = sx_ts u
      · by_cases hj2 : j = sx_ts u
        · omega
        · rw [if_pos hi2, if_neg hj2] at h
          exact absurd ⟨j, by omega, h.symm⟩ z
      · by_cases hj2 : j = sx_ts u
        · rw [if_neg hi2, if_pos hj2] at h
          exact absurd ⟨i, by omega, h⟩ z
        · rw [if_neg hi2, if_neg hj2] at h
          exact v7 i j (by omega) (by omega) h)
    omega
  have hlit : ∀ e, bt (sx_kn u) e → lit (fun x => (cx_U (sx_kn u)).testBit x) e = true := by
    intro e he
    have h20 := bt_lt (se_k20 V0) he
    unfold lit
    by_cases h10 : e < 10
    · rw [if_pos h10]; exact he
    · rw [if_neg h10]
      have h2 := se_co V0 he
      unfold op_e at h2
      rw [if_neg h10] at h2
      have h3 : (cx_U (sx_kn u)).testBit (e - 10) = false := Bool.eq_false_iff.mpr h2
      show (!(cx_U (sx_kn u)).testBit (e - 10)) = true
      rw [h3]; rfl
  refine ⟨rfl, Or.inl ⟨rfl, fun x => (cx_U (sx_kn u)).testBit x, fun x _ => Iff.rfl, fun r hr => ?_, fun A hsA => ?_⟩⟩
  · obtain ⟨c1, c2, -⟩ := v4 r (by omega)
    rw [← v5 r hr]
    rcases fo_cases c1 (se_k20 V0) with ⟨z, -⟩ | ⟨-, e, e1, e2, -⟩ | ⟨e, e0, e1, e2, e3, e4, e5⟩
    · rw [hst r (by omega)] at z; exact absurd z (by decide)
    · refine ⟨e, e1, hlit e ?_⟩
      obtain ⟨i, hi, hm⟩ := hall (e % 10) (c2 e e1)
      rcases mod_op (v6 i hi).2.1 (bt_lt c1 e1) hm with z | z
      · exact (v8 e).mpr ⟨i, hi, z⟩
      · exact absurd ((v8 _).mpr ⟨i, hi, z⟩) e2
    · rw [hst r (by omega)] at e5
      exact absurd e5.symm (b20_pos (b20_or (se_k20 V0) (b20_sb e0))).2.1
  · by_cases hag : ∃ i, i < sx_ts u ∧ lit A (E i) = false
    · right
      obtain ⟨i, ⟨hi, hf⟩, hmin⟩ := pk_least _ hag
      have hmin : ∀ k, k < i → lit A (E k) = true := fun k hk => by
        cases hz : lit A (E k) with
        | true => rfl
        | false => exact absurd ⟨by omega, hz⟩ (hmin k hk)
      have hdec : sx_fr u i = -1 := Classical.byContradiction fun z => by
        obtain ⟨r, r1, r2, r3, r4⟩ := v12 i hi z
        obtain ⟨c1, c2, c3⟩ := v4 r r1
        obtain ⟨e, e1, e2⟩ := c3 A hsA
        by_cases hee : e = E i
        · rw [hee, hf] at e2; cases e2
        · obtain ⟨k, k1, k2⟩ := r4 e e1 hee
          have h3 := hmin k k1
          rw [k2, lit_op (bt_lt c1 e1), e2] at h3
          cases h3
      obtain ⟨-, h10, hlow⟩ := v11 i hi hdec
      have h20 := (v6 i hi).2.1
      have hv := (v6 i hi).2.2
      refine ⟨E i - 10, by omega, ?_, ?_, fun y hy => ?_⟩
      · unfold lit at hf
        rw [if_neg (by omega)] at hf
        simpa using hf
      · have h2 := se_co V0 ((v8 _).mpr ⟨i, hi, rfl⟩)
        unfold op_e at h2
        rw [if_neg (by omega)] at h2
        exact Bool.eq_false_iff.mpr h2
      · obtain ⟨k, k1, k2⟩ := hlow y hy
        have hk20 := (v6 k (by omega)).2.1
        have h3 := hmin k k1
        have h4 := hlit (E k) ((v8 _).mpr ⟨k, by omega, rfl⟩)
        unfold lit at h3 h4
        by_cases hk10 : E k < 10
        · rw [if_pos hk10] at h3 h4
          have : E k = y := by omega
          rw [this] at h3 h4
          exact h3.trans h4.symm
        · rw [if_neg hk10] at h3 h4
          have : E k - 10 = y := by omega
          rw [this] at h3 h4
          have h3 : A y = false := by simpa using h3
          have h4 : (cx_U (sx_kn u)).testBit y = false := by simpa using h4
          exact h3.trans h4.symm
    · left
      intro x hx
      obtain ⟨i, hi, hm⟩ := hall x hx
      have h20 := (v6 i hi).2.1
      have h3 : lit A (E i) = true := by
        cases hz : lit A (E i) with
        | true => rfl
        | false => exact absurd ⟨i, hi, hz⟩ hag
      have h4 := hlit (E i) ((v8 _).mpr ⟨i, hi, rfl⟩)
      unfold lit at h3 h4
      by_cases hk10 : E i < 10
      · rw [if_pos hk10] at h3 h4
        have : E i = x := by omega
        rw [this] at h3 h4
        exact h3.trans h4.symm
      · rw [if_neg hk10] at h3 h4
        have : E i - 10 = x := by omega
        rw [this] at h3 h4
        have h3 : A x = false := by simpa using h3
        have h4 : (cx_U (sx_kn u)).testBit x = false := by simpa using h4
        exact h3.trans h4.symm
end
/-- the search ends, and tells the truth -/
theorem se_fs {v n0 : Nat} {fc0 : Nat → Int32} : ∀ (d : Nat) (t : sx_T) (E D : Nat → Nat) (R : Nat), se_V v n0 fc0 t E D → sx_fi t = false → sx_sa t = false → sx_sh t = true → sx_sz t ≤ 24 + R → se_M v t R → 2047 < R + d → se_E v n0 fc0 (sx_fs d t) := by
  intro d
  induction d with
  | zero =>
    intro t E D R V _ _ _ _ hM hd
    have := se_MR V.1.2.1 (se_ts V) hM
    omega
  | succ d ih =>
    intro t E D R V hfi hsa hsh hsz hM hd
    have hR := se_MR V.1.2.1 (se_ts V) hM
    have hv1 := V.1.1
    have hv2 := V.1.2.1
    rw [sx_fs.eq_2, if_neg (by rw [hfi]; decide)]
    unfold sx_st
    obtain ⟨E', VU, X, hcf, hst⟩ := se_po (sx_vv t + 1) t E V (by rw [hv1]; omega) (by omega)
    generalize sx_po (sx_vv t + 1) t = PR at VU X hcf hst ⊢
    obtain ⟨o, u⟩ := PR
    have VU9 : se_V v n0 fc0 u E' D := VU
    have X9 : se_X t u E E' := X
    have hcf9 : ∀ j, o = some j → j < sx_sz t ∧ ∀ e, bt (sx_fc t j) e → bt (sx_kn u) (op_e e) := hcf
    have hst9 : o = none → ∀ k, k < sx_sz t → cx_fo (sx_fc t k) (sx_kn u) = -2 := hst
    clear VU X hcf hst
    obtain ⟨f1, f2⟩ := fl_X X9
    obtain ⟨x1, x2, x3, x4, x5, x6, x7, x8, x9⟩ := X9.1
    have hle := X9.2.1
    have hut := se_ts VU9
    -- what is counted so far is at most what u shows, where something was added
    have up : sx_ts t < sx_ts u ∨ R ≤ rk (fl t) v 0 (sx_ts t) → R ≤ rk (fl u) v 0 (sx_ts u) := by
      intro h
      rcases hM with hM | ⟨m1, m2, m3⟩
      · exact Nat.le_trans hM (rk_le v 0 _ _ hle hut (fun k _ hk => f1 k (by omega)))
      · rcases h with h | h
        · refine Nat.le_trans m3 (rk_le v 0 _ _ h hut (fun k _ hk => ?_))
          unfold fl1
          by_cases hk2 : k = sx_ts t
          · rw [if_pos hk2]; exact f2 k (by omega) (by omega)
          · rw [if_neg hk2]; exact f1 k (by omega)
        · exact Nat.le_trans h (rk_le v 0 _ _ hle hut (fun k _ hk => f1 k (by omega)))
    cases o with
    | some j =>
      show se_E v n0 fc0 (sx_fs d (sx_rs u j))
      obtain ⟨hj, hc⟩ := hcf9 j rfl
      have hc : ∀ e, bt (sx_fc u j) e → bt (sx_kn u) (op_e e) := by rw [x1]; exact hc
      rcases se_rs VU9 (by omega) (by omega) hc with ⟨r1, r2, r3, r4, r5⟩ | ⟨V2, r1, r2, r3, ⟨r4, r5, r6⟩, r7, r8⟩
      · rw [fs_fi r1]
        exact ⟨r1, Or.inr ⟨by rw [r2, x5]; exact hsa, r3, by rw [r4, x7]; exact hsh, r5⟩⟩
      · generalize sx_rs u j = y at V2 r1 r2 r3 r4 r5 r6 r7 r8 ⊢
        refine ih y E' D (R + 1) V2 (by rw [r4, x4]; exact hfi) (by rw [r5, x5]; exact hsa) (by rw [r6, x7]; exact hsh) (by omega) (Or.inr ⟨by omega, r8, ?_⟩) (by omega)
        have hy : fl u (sx_ts y) = false := by
          unfold fl
          rw [r2]; rfl
        have hy1 : ∀ k, k < sx_ts y → fl1 y k = fl u k := fun k hk => by
          unfold fl1
          rw [if_neg (by omega)]
          unfold fl
          rw [r3]
        have hy2 : fl1 y (sx_ts y) = true := by unfold fl1; rw [if_pos rfl]
        by_cases hup : sx_ts t < sx_ts u ∨ R ≤ rk (fl t) v 0 (sx_ts t)
        · have h1 := up hup
          have h2 := rk_jump (P := fl u) (P' := fl1 y) v 0 (sx_ts y) (sx_ts u) r1 hut (fun k _ hk => hy1 k (by omega)) (by rw [Nat.zero_add]; exact hy) (by rw [Nat.zero_add]; exact hy2)
          omega
        · rcases hM with hM | ⟨m1, m2, m3⟩
          · exact absurd (Or.inr hM) hup
          · have htu : sx_ts u = sx_ts t := by
              rcases Nat.lt_or_ge (sx_ts t) (sx_ts u) with z | z
              · exact absurd (Or.inl z) hup
              · omega
            have hfl : ∀ k, k < sx_ts t → fl1 t k = fl u k := fun k hk => by
              unfold fl1
              rw [if_neg (by omega)]
              exact (f1 k hk).symm
            have h2 := rk_jump (P := fl1 t) (P' := fl1 y) v 0 (sx_ts y) (sx_ts t + 1) (by omega) (by omega) (fun k _ hk => by rw [hy1 k (by omega), hfl k (by omega)]) (by rw [Nat.zero_add, hfl _ (by omega)]; exact hy) (by rw [Nat.zero_add]; exact hy2)
            omega
    | none =>
      show se_E v n0 fc0 (sx_fs d (if sx_vv u ≤ sx_ts u then sx_dn u else sx_de u))
      have hst2 : ∀ k, k < sx_sz u → cx_fo (sx_fc u k) (sx_kn u) = -2 := by
        rw [x1, x2]; exact hst9 rfl
      by_cases hvu : sx_vv u ≤ sx_ts u
      · rw [if_pos hvu, fs_fi (show sx_fi (sx_dn u) = true from rfl)]
        exact se_sat VU9 (by rw [x3, hv1] at hvu; exact hvu) hst2
      · rw [if_neg hvu]
        rw [x3, hv1] at hvu
        obtain ⟨E2, D2, V2, d1, d2, d3, d4, d5, d6, d7, d8, d9⟩ := se_de VU9 (by omega)
        generalize sx_de u = z at V2 d1 d2 d3 d4 d5 d6 d7 d8 d9 ⊢
        refine ih z E2 D2 (R + 1) V2 (by rw [d6, x4]; exact hfi) (by rw [d7, x5]; exact hsa) (by rw [d9, x7]; exact hsh) (by omega) (Or.inl ?_) (by omega)
        have hup : sx_ts t < sx_ts u ∨ R ≤ rk (fl t) v 0 (sx_ts t) := by
          rcases hM with hM | ⟨m1, ⟨k, k1, k2⟩, m3⟩
          · exact Or.inr hM
          · left
            rcases Nat.lt_or_ge (sx_ts t) (sx_ts u) with z | z
            · exact z
            · exfalso
              have hkn := se_Xkn V VU9 X9 (by omega)
              have h3 := hst9 rfl k k1
              have h3 : cx_fo (sx_fc t k) (sx_kn u) = -2 := h3
              rw [hkn] at h3
              exact k2 h3
        have h1 := up hup
        have h2 := rk_lt (P := fl u) (P' := fl z) v 0 (sx_ts u) (sx_ts z) (by omega) (by rw [d1]; omega) (fun k _ hk => by unfold fl; rw [d3 k (by omega)])
        omega
/-- the search from its start -/
theorem se_start {v n : Nat} {fc : Nat → Int32} {t : sx_T} (hv : v ≤ 10) (hn : n ≤ 24) (hc : ∀ r, r < n → b20 (fc r) ∧ ∀ e, bt (fc r) e → e % 10 < v) : se_E v n fc (sx_F 22539 (sx_bg fc n v t)) := by
  refine se_fs 22539 (sx_bg fc n v t) (fun _ => 0) (fun _ => 0) 0 ⟨⟨rfl, hv, Nat.le_refl _⟩, fun r hr => ⟨(hc r hr).1, (hc r hr).2, fun A hA => hA r hr⟩, fun r _ => rfl, fun i hi => absurd hi (Nat.not_lt_zero _), fun i j hi => absurd hi (Nat.not_lt_zero _), fun e => ?_, fun l h1 h2 => ?_, fun l m h1 h2 h3 => ?_, fun i hi => absurd hi (Nat.not_lt_zero _), fun i hi => absurd hi (Nat.not_lt_zero _)⟩ rfl rfl rfl (by show n ≤ 24 + 0; omega) (Or.inl (Nat.zero_le _)) (by decide)
  · exact ⟨fun z => absurd z bt_z, fun ⟨i, hi, _⟩ => absurd hi (Nat.not_lt_zero _)⟩
  · have h2 : l ≤ 0 := h2
    omega
  · have h3 : m ≤ 0 := h3
    omega
