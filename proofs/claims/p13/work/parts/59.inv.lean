/-- whether a literal is true where the variables are told by A -/
def lit (A : Nat → Bool) (e : Nat) : Bool := if e < 10 then A e else !A (e - 10)
def sat_m (A : Nat → Bool) (M : Int32) : Prop := ∃ e, bt M e ∧ lit A e = true
def sat_F (n0 : Nat) (fc0 : Nat → Int32) (A : Nat → Bool) : Prop := ∀ r, r < n0 → sat_m A (fc0 r)
theorem lit_op {A : Nat → Bool} {e : Nat} (h : e < 20) : lit A (op_e e) = !lit A e := by
  unfold lit op_e
  by_cases h1 : e < 10
  · rw [if_pos h1, if_neg (by omega), if_pos h1, show e + 10 - 10 = e by omega]
  · rw [if_neg h1, if_pos (by omega), if_neg h1, Bool.not_not]
theorem op_mod {e : Nat} (h : e < 20) : op_e e % 10 = e % 10 := by unfold op_e; split <;> omega
theorem mod_op {e x : Nat} (h : e < 20) (hx : x < 20) (hm : e % 10 = x % 10) : e = x ∨ e = op_e x := by
  unfold op_e
  by_cases h1 : x < 10
  · rw [if_pos h1]; omega
  · rw [if_neg h1]; omega
/-- as many different numbers below v -/
theorem ph_M {v : Nat} {f : Nat → Nat} : ∀ n, (∀ i, i < n → f i < v) → (∀ i j, i < n → j < n → f i = f j → i = j) → ∃ M : Nat, pc_n v M = n ∧ ∀ x, M.testBit x = true ↔ ∃ i, i < n ∧ f i = x := by
  intro n
  induction n with
  | zero =>
    intro _ _
    refine ⟨0, ?_, fun x => ?_⟩
    · have : ∀ v, pc_n v 0 = 0 := by
        intro v
        induction v with
        | zero => rfl
        | succ v ih => show 0 % 2 + pc_n v (0 / 2) = 0; rw [Nat.zero_div, ih]
      exact this v
    · rw [Nat.zero_testBit]
      exact ⟨fun z => (by cases z), fun ⟨i, hi, _⟩ => absurd hi (Nat.not_lt_zero _)⟩
  | succ n ih =>
    intro h1 h2
    obtain ⟨M, m1, m2⟩ := ih (fun i hi => h1 i (by omega)) (fun i j hi hj => h2 i j (by omega) (by omega))
    have hb : M.testBit (f n) = false := by
      cases hz : M.testBit (f n) with
      | false => rfl
      | true =>
        obtain ⟨i, hi, he⟩ := (m2 (f n)).mp hz
        have := h2 i n (by omega) (by omega) he
        omega
    refine ⟨M ||| 2 ^ f n, ?_, fun x => ?_⟩
    · rw [pc_up v M (f n) (h1 n (by omega)) hb, m1]
    · rw [Nat.testBit_or, Nat.testBit_two_pow, Bool.or_eq_true, m2, decide_eq_true_eq]
      constructor
      · rintro (⟨i, hi, he⟩ | z)
        · exact ⟨i, by omega, he⟩
        · exact ⟨n, by omega, z⟩
      · rintro ⟨i, hi, he⟩
        by_cases hin : i = n
        · subst hin; exact Or.inr he
        · exact Or.inl ⟨i, by omega, he⟩
theorem ph {v n : Nat} {f : Nat → Nat} (h1 : ∀ i, i < n → f i < v) (h2 : ∀ i j, i < n → j < n → f i = f j → i = j) : n ≤ v := by
  obtain ⟨M, m1, -⟩ := ph_M n h1 h2
  rw [← m1]
  exact pc_le v M
theorem ph_all {v n : Nat} {f : Nat → Nat} (h1 : ∀ i, i < n → f i < v) (h2 : ∀ i j, i < n → j < n → f i = f j → i = j) (h3 : ∀ y, y < v → ∃ i, i < n ∧ f i = y) : v ≤ n := by
  obtain ⟨M, m1, m2⟩ := ph_M n h1 h2
  have hf : ∀ (v M : Nat), (∀ y, y < v → M.testBit y = true) → pc_n v M = v := by
    intro v
    induction v with
    | zero => intro M _; rfl
    | succ v ih =>
      intro M h
      show M % 2 + pc_n v (M / 2) = v + 1
      have h0 := h 0 (by omega)
      rw [Nat.testBit_zero, decide_eq_true_eq] at h0
      rw [ih (M / 2) (fun y hy => by rw [Nat.testBit_div_two]; exact h (y + 1) (by omega))]
      omega
  rw [← m1, hf v M (fun y hy => (m2 y).mpr (h3 y hy))]
  exact Nat.le_refl _
/-- a clause that the search holds -/
def se_c (v n0 : Nat) (fc0 : Nat → Int32) (M : Int32) : Prop := b20 M ∧ (∀ e, bt M e → e % 10 < v) ∧ ∀ A, sat_F n0 fc0 A → sat_m A M
/-- the search's state: E tells the literals of the trail, D the places of the decisions -/
def se_V (v n0 : Nat) (fc0 : Nat → Int32) (t : sx_T) (E D : Nat → Nat) : Prop := (sx_vv t = v ∧ v ≤ 10 ∧ n0 ≤ sx_sz t) ∧ (∀ r, r < sx_sz t → se_c v n0 fc0 (sx_fc t r)) ∧ (∀ r, r < n0 → sx_fc t r = fc0 r) ∧ (∀ i, i < sx_ts t → sx_ft t i = sb (E i) ∧ E i < 20 ∧ E i % 10 < v) ∧ (∀ i j, i < sx_ts t → j < sx_ts t → E i % 10 = E j % 10 → i = j) ∧ (∀ e, bt (sx_kn t) e ↔ ∃ i, i < sx_ts t ∧ E i = e) ∧ (∀ l, 1 ≤ l → l ≤ sx_lv t → D l < sx_ts t ∧ sx_fr t (D l) = -1 ∧ ∀ e, bt (sx_fk t l) e ↔ ∃ i, i < D l ∧ E i = e) ∧ (∀ l m, 1 ≤ l → l < m → m ≤ sx_lv t → D l < D m) ∧ (∀ i, i < sx_ts t → sx_fr t i = -1 → (∃ l, 1 ≤ l ∧ l ≤ sx_lv t ∧ i = D l) ∧ 10 ≤ E i ∧ ∀ y, y < E i - 10 → ∃ k, k < i ∧ E k % 10 = y) ∧ (∀ i, i < sx_ts t → ¬ sx_fr t i = -1 → ∃ r, r < sx_sz t ∧ sx_fr t i = nI r ∧ bt (sx_fc t r) (E i) ∧ ∀ e, bt (sx_fc t r) e → e ≠ E i → ∃ k, k < i ∧ E k = op_e e)
section
variable {v n0 : Nat} {fc0 : Nat → Int32} {t u : sx_T} {E E' D : Nat → Nat}
theorem se_ts (V : se_V v n0 fc0 t E D) : sx_ts t ≤ v := ph (f := fun i => E i % 10) (fun i hi => (V.2.2.2.1 i hi).2.2) (fun i j hi hj => V.2.2.2.2.1 i j hi hj)
theorem se_k20 (V : se_V v n0 fc0 t E D) : b20 (sx_kn t) := by
  apply Nat.lt_pow_two_of_testBit
  intro e he
  cases hz : (cx_U (sx_kn t)).testBit e with
  | false => rfl
  | true =>
    obtain ⟨i, hi, rfl⟩ := (V.2.2.2.2.2.1 e).mp hz
    have := (V.2.2.2.1 i hi).2.1
    omega
theorem se_co (V : se_V v n0 fc0 t E D) {e : Nat} (h : bt (sx_kn t) e) : ¬ bt (sx_kn t) (op_e e) := by
  intro h2
  obtain ⟨i, hi, rfl⟩ := (V.2.2.2.2.2.1 e).mp h
  obtain ⟨j, hj, he⟩ := (V.2.2.2.2.2.1 _).mp h2
  have hl := (V.2.2.2.1 i hi).2.1
  have := V.2.2.2.2.1 j i hj hi (by rw [he]; exact op_mod hl)
  subst this
  exact op_ne hl he.symm
/-- what propagating keeps -/
def se_X (t u : sx_T) (E E' : Nat → Nat) : Prop := (sx_fc u = sx_fc t ∧ sx_sz u = sx_sz t ∧ sx_vv u = sx_vv t ∧ sx_fi u = sx_fi t ∧ sx_sa u = sx_sa t ∧ sx_re u = sx_re t ∧ sx_sh u = sx_sh t ∧ sx_fk u = sx_fk t ∧ sx_lv u = sx_lv t) ∧ sx_ts t ≤ sx_ts u ∧ (∀ i, i < sx_ts t → E' i = E i ∧ sx_fr u i = sx_fr t i) ∧ (∀ i, sx_ts t ≤ i → i < sx_ts u → ¬ sx_fr u i = -1)
theorem se_X_r : se_X t t E E := ⟨⟨rfl, rfl, rfl, rfl, rfl, rfl, rfl, rfl, rfl⟩, Nat.le_refl _, fun _ _ => ⟨rfl, rfl⟩, fun i h1 h2 => by omega⟩
theorem se_X_t {w : sx_T} {E2 : Nat → Nat} (h1 : se_X t u E E') (h2 : se_X u w E' E2) : se_X t w E E2 := by
  obtain ⟨⟨a1, a2, a3, a4, a5, a6, a7, a8, a9⟩, b1, c1, d1⟩ := h1
  obtain ⟨⟨p1, p2, p3, p4, p5, p6, p7, p8, p9⟩, q1, r1, s1⟩ := h2
  refine ⟨⟨p1.trans a1, p2.trans a2, p3.trans a3, p4.trans a4, p5.trans a5, p6.trans a6, p7.trans a7, p8.trans a8, p9.trans a9⟩, by omega, fun i hi => ?_, fun i h3 h4 => ?_⟩
  · obtain ⟨x1, x2⟩ := c1 i hi
    obtain ⟨y1, y2⟩ := r1 i (by omega)
    exact ⟨y1.trans x1, y2.trans x2⟩
  · by_cases h5 : i < sx_ts u
    · rw [(r1 i h5).2]; exact d1 i h3 h5
    · exact s1 i (by omega) h4
/-- a literal is taken with its reason -/
theorem se_as (V : se_V v n0 fc0 t E D) {e r : Nat} (he : e < 20) (hev : e % 10 < v) (hn : ∀ i, i < sx_ts t → ¬ E i % 10 = e % 10) (hr : r < sx_sz t) (hr2 : r < 2 ^ 31 - 1) (h1 : bt (sx_fc t r) e) (h2 : ∀ x, bt (sx_fc t r) x → x ≠ e → bt (sx_kn t) (op_e x)) : se_V v n0 fc0 (sx_as t (sb e) (nI r)) (fun i => if i = sx_ts t then e else E i) D ∧ se_X t (sx_as t (sb e) (nI r)) E (fun i => if i = sx_ts t then e else E i) ∧ sx_ts (sx_as t (sb e) (nI r)) = sx_ts t + 1 ∧ sx_kn (sx_as t (sb e) (nI r)) = (sx_kn t ||| sb e) := by
  obtain ⟨⟨v1, v2, v3⟩, v4, v5, v6, v7, v8, v9, v10, v11, v12⟩ := V
  have hts : sx_ts t < 10 := by
    have : sx_ts t + 1 ≤ v := ph (f := fun i => if i = sx_ts t then e % 10 else E i % 10) (fun i hi => by
      show (if i = sx_ts t then e % 10 else E i % 10) < v
      split
      · exact hev
      · exact (v6 i (by omega)).2.2) (fun i j hi hj h => by
      have h : (if i = sx_ts t then e % 10 else E i % 10) = (if j = sx_ts t then e % 10 else E j % 10) := h
      by_cases hi2 : i = sx_ts t
      · by_cases hj2 : j = sx_ts t
        · omega
        · rw [if_pos hi2, if_neg hj2] at h
          exact absurd h.symm (hn j (by omega))
      · by_cases hj2 : j = sx_ts t
        · rw [if_neg hi2, if_pos hj2] at h
          exact absurd h (hn i (by omega))
        · rw [if_neg hi2, if_neg hj2] at h
          exact v7 i j (by omega) (by omega) h)
    omega
  have hn1 : ¬ (nI r = -1) := by
    intro z
    have h9 : ¬ nI r < 0 := nI_pos (by omega)
    rw [z] at h9
    exact h9 (by decide)
  unfold sx_as
  rw [if_pos hts]
  have eE : ∀ i, i < sx_ts t → (if i = sx_ts t then e else E i) = E i := fun i hi => if_neg (by omega)
  refine ⟨⟨⟨v1, v2, v3⟩, v4, v5, fun i hi => ?_, fun i j hi hj h => ?_, fun x => ?_, fun l hl1 hl2 => ?_, v10, fun i hi hd => ?_, fun i hi hd => ?_⟩, ⟨⟨rfl, rfl, rfl, rfl, rfl, rfl, rfl, rfl, rfl⟩, (by show sx_ts t ≤ sx_ts t + 1; omega), fun i hi => ⟨eE i hi, ?_⟩, fun i h3 h4 => ?_⟩, rfl, rfl⟩
  · have hi : i < sx_ts t + 1 := hi
    show upd (sx_ft t) (sx_ts t) (sb e) i = sb (if i = sx_ts t then e else E i) ∧ (if i = sx_ts t then e else E i) < 20 ∧ (if i = sx_ts t then e else E i) % 10 < v
    by_cases hi2 : i = sx_ts t
    · subst hi2
      rw [pk_us, if_pos rfl]
      exact ⟨rfl, he, hev⟩
    · rw [pk_un hi2, if_neg hi2]
      exact v6 i (by omega)
  · have hi : i < sx_ts t + 1 := hi
    have hj : j < sx_ts t + 1 := hj
    have h : (if i = sx_ts t then e else E i) % 10 = (if j = sx_ts t then e else E j) % 10 := h
    by_cases hi2 : i = sx_ts t
    · by_cases hj2 : j = sx_ts t
      · omega
      · rw [if_pos hi2, if_neg hj2] at h
        exact absurd h.symm (hn j (by omega))
    · by_cases hj2 : j = sx_ts t
      · rw [if_neg hi2, if_pos hj2] at h
        exact absurd h (hn i (by omega))
      · rw [if_neg hi2, if_neg hj2] at h
        exact v7 i j (by omega) (by omega) h
  · show bt (sx_kn t ||| sb e) x ↔ ∃ i, i < sx_ts t + 1 ∧ (if i = sx_ts t then e else E i) = x
    rw [bt_or, bt_sb (by omega), v8]
    constructor
    · rintro (⟨i, hi, hx⟩ | hx)
      · exact ⟨i, by omega, (eE i hi).trans hx⟩
      · exact ⟨sx_ts t, by omega, by rw [if_pos rfl]; exact hx.symm⟩
    · rintro ⟨i, hi, hx⟩
      by_cases hi2 : i = sx_ts t
      · rw [if_pos hi2] at hx; exact Or.inr hx.symm
      · rw [if_neg hi2] at hx; exact Or.inl ⟨i, by omega, hx⟩
  · obtain ⟨d1, d2, d3⟩ := v9 l hl1 hl2
    refine ⟨by show D l < sx_ts t + 1; omega, ?_, fun x => ?_⟩
    · show upd (sx_fr t) (sx_ts t) (nI r) (D l) = -1
      rw [pk_un (by omega)]; exact d2
    · show bt (sx_fk t l) x ↔ ∃ i, i < D l ∧ (if i = sx_ts t then e else E i) = x
      rw [d3]
      constructor
      · rintro ⟨i, hi, hx⟩; exact ⟨i, hi, (eE i (by omega)).trans hx⟩
      · rintro ⟨i, hi, hx⟩; exact ⟨i, hi, (eE i (by omega)).symm.trans hx⟩
  · have hi : i < sx_ts t + 1 := hi
    have hd : upd (sx_fr t) (sx_ts t) (nI r) i = -1 := hd
    by_cases hi2 : i = sx_ts t
    · rw [hi2, pk_us] at hd
      exact absurd hd hn1
    · rw [pk_un hi2] at hd
      obtain ⟨x1, x2, x3⟩ := v11 i (by omega) hd
      show (∃ l, 1 ≤ l ∧ l ≤ sx_lv t ∧ i = D l) ∧ 10 ≤ (if i = sx_ts t then e else E i) ∧ ∀ y, y < (if i = sx_ts t then e else E i) - 10 → ∃ k, k < i ∧ (if k = sx_ts t then e else E k) % 10 = y
      rw [if_neg hi2]
      refine ⟨x1, x2, fun y hy => ?_⟩
      obtain ⟨k, hk, hk2⟩ := x3 y hy
      exact ⟨k, hk, by rw [eE k (by omega)]; exact hk2⟩
  · have hi : i < sx_ts t + 1 := hi
    have hd : ¬ upd (sx_fr t) (sx_ts t) (nI r) i = -1 := hd
    show ∃ r', r' < sx_sz t ∧ upd (sx_fr t) (sx_ts t) (nI r) i = nI r' ∧ bt (sx_fc t r') (if i = sx_ts t then e else E i) ∧ ∀ x, bt (sx_fc t r') x → x ≠ (if i = sx_ts t then e else E i) → ∃ k, k < i ∧ (if k = sx_ts t then e else E k) = op_e x
    by_cases hi2 : i = sx_ts t
    · subst hi2
      rw [pk_us, if_pos rfl]
      refine ⟨r, hr, rfl, h1, fun x hx hxe => ?_⟩
      obtain ⟨k, hk, hk2⟩ := (v8 _).mp (h2 x hx hxe)
      exact ⟨k, hk, (eE k hk).trans hk2⟩
    · rw [pk_un hi2] at hd ⊢
      rw [if_neg hi2]
      obtain ⟨r', x1, x2, x3, x4⟩ := v12 i (by omega) hd
      refine ⟨r', x1, x2, x3, fun x hx hxe => ?_⟩
      obtain ⟨k, hk, hk2⟩ := x4 x hx hxe
      exact ⟨k, hk, (eE k (by omega)).trans hk2⟩
  · show upd (sx_fr t) (sx_ts t) (nI r) i = _
    exact pk_un (by omega)
  · have h4 : i < sx_ts t + 1 := h4
    have hi2 : i = sx_ts t := by omega
    show ¬ upd (sx_fr t) (sx_ts t) (nI r) i = -1
    rw [hi2, pk_us]
    exact hn1
/-- what a clause tells in this state -/
theorem se_fo (V : se_V v n0 fc0 t E D) {r : Nat} (hr : r < sx_sz t) (h1 : ¬ cx_fo (sx_fc t r) (sx_kn t) = -1) (h2 : ¬ cx_fo (sx_fc t r) (sx_kn t) = -2) : ∃ e, e < 20 ∧ e % 10 < v ∧ (∀ i, i < sx_ts t → ¬ E i % 10 = e % 10) ∧ bt (sx_fc t r) e ∧ (∀ x, bt (sx_fc t r) x → x ≠ e → bt (sx_kn t) (op_e x)) ∧ (cx_fo (sx_fc t r) (sx_kn t) &&& (sx_kn t ^^^ (-1 : Int32))) = sb e := by
  have hk := se_k20 V
  obtain ⟨c1, c2, c3⟩ := V.2.1 r hr
  rcases fo_cases c1 hk with ⟨z, -⟩ | ⟨z, -⟩ | ⟨e, e1, e2, e3, e4, e5, e6⟩
  · exact absurd z h1
  · exact absurd z h2
  · refine ⟨e, e1, c2 e e2, fun i hi hm => ?_, e2, e5, ?_⟩
    · have hl := (V.2.2.2.1 i hi).2.1
      rcases mod_op hl e1 hm with z | z
      · exact e4 ((V.2.2.2.2.2.1 e).mpr ⟨i, hi, z⟩)
      · exact e3 ((V.2.2.2.2.2.1 _).mpr ⟨i, hi, z⟩)
    · rw [e6]
      apply bt_ext
      intro x
      rw [bt_an, bt_or, bt_sb (by omega)]
      constructor
      · rintro ⟨z1 | z1, z2⟩
        · exact absurd z1 z2
        · exact z1
      · rintro rfl
        exact ⟨Or.inr rfl, e4⟩
end
