theorem nat_and_pow (N e : Nat) : N &&& 2 ^ e = 0 ↔ N.testBit e = false := by
  constructor
  · intro h
    have h2 := congrArg (fun x => x.testBit e) h
    simp only [Nat.testBit_and, Nat.testBit_two_pow, Nat.zero_testBit] at h2
    simpa using h2
  · intro h
    apply Nat.eq_of_testBit_eq
    intro k
    rw [Nat.testBit_and, Nat.testBit_two_pow, Nat.zero_testBit]
    by_cases hk : e = k
    · subst hk
      rw [h]
      rfl
    · simp [hk]
theorem cx_U_0 {x : Int32} : x = 0 ↔ cx_U x = 0 := by
  constructor
  · rintro rfl; rfl
  · intro h
    apply Int32.toBitVec_inj.mp
    apply BitVec.eq_of_toNat_eq
    exact h
def cl_e (j : Nat) : Nat := if 10 < j then j - 11 else 19 - j
theorem cl_bit_e : ∀ j, j < 21 → j ≠ 10 → cx_U (cl_bit (nI j - 10)) = 2 ^ cl_e j := by decide
theorem fo_at_U {v i : Nat} (hv : v ≤ 10) (hi : i < 2 ^ v) : cx_U (fo_at v i) = i ||| (2 ^ v - (i + 1)) <<< 10 := by
  obtain ⟨e1, e2⟩ := fo_sh v (by omega)
  unfold fo_at
  rw [show cx_U (nI i ||| ((((1 : Int32) <<< (nI v &&& 31)) - (1 : Int32) - nI i) <<< ((10 : Int32) &&& 31))) = cx_U (nI i) ||| cx_U ((((1 : Int32) <<< (nI v &&& 31)) - (1 : Int32) - nI i) <<< ((10 : Int32) &&& 31)) from BitVec.toNat_or _ _]
  rw [e1, show nI (2 ^ v) - (1 : Int32) = nI (2 ^ v - 1) from pk_sub (a := 2 ^ v) (b := 1) (by omega), pk_sub (by omega), pk_shlN ((10 : Int32) &&& 31) 10 (by decide) (by omega)]
  rw [show cx_U (nI i) = i from pk_tn (by omega), show cx_U (nI ((2 ^ v - 1 - i) * 2 ^ 10)) = (2 ^ v - 1 - i) * 2 ^ 10 from pk_tn (by omega), Nat.shiftLeft_eq, show 2 ^ v - 1 - i = 2 ^ v - (i + 1) by omega]
theorem at_lit {v i j : Nat} (hv : v ≤ 10) (hi : i < 2 ^ v) (hj : j ≤ 20) (h10 : j ≠ 10) (h1 : j ≤ 10 + v) (h2 : 10 ≤ j + v) : (cl_bit (nI j - 10) &&& fo_at v i) = 0 ↔ as_l (fun k => i.testBit k) j = false := by
  have hi10 : i < 2 ^ 10 := Nat.lt_of_lt_of_le hi (Nat.pow_le_pow_right (by decide) hv)
  rw [cx_U_0, cx_U_and, cl_bit_e j (by omega) h10, fo_at_U hv hi, Nat.and_comm, nat_and_pow, Nat.testBit_or, Nat.testBit_shiftLeft]
  unfold cl_e as_l
  by_cases h : 10 < j
  · rw [if_pos h, if_pos h]
    have e : decide (j - 11 ≥ 10) = false := by simp; omega
    rw [e]
    simp
  · rw [if_neg h, if_neg h]
    have hb : i.testBit (19 - j) = false := Nat.testBit_lt_two_pow (Nat.lt_of_lt_of_le hi10 (Nat.pow_le_pow_right (by decide) (by omega)))
    rw [hb, Nat.testBit_two_pow_sub_succ hi, show 19 - j - 10 = 9 - j by omega]
    have e : decide (19 - j ≥ 10) = true := by simp; omega
    rw [e]
    simp [show 9 - j < v by omega]
theorem it_lit {v a j : Nat} (hv : v ≤ 10) (ha : a < 2 ^ v) (hj : j ≤ 20) (h10 : j ≠ 10) (h1 : j ≤ 10 + v) (h2 : 10 ≤ j + v) : mo_it (nI v) (nI a) (nI j - 10) = as_l (as_g v a) j := by
  have ha10 : a < 2 ^ 10 := Nat.lt_of_lt_of_le ha (Nat.pow_le_pow_right (by decide) hv)
  have sm : ∀ k, k < 32 → ((nI k).toBitVec.smod 32).toNat = k := by decide
  have bit : ∀ k, k < 32 → ((nI a >>> (nI k)) &&& (1 : Int32)) = nI (a / 2 ^ k % 2) := by
    intro k hk
    rw [pk_shrN (by omega) (nI k) k (sm k hk)]
    have hq : a / 2 ^ k ≤ a := Nat.div_le_self _ _
    rw [pk_andN (by omega) 1 (by decide)]
  unfold mo_it as_l
  by_cases h : 10 < j
  · have c1 : ∀ j, j < 21 → 10 < j → (0 : Int32) ≤ nI j - 10 ∧ ¬ (nI j - 10 ≤ 0) := by decide
    obtain ⟨d1, d2⟩ := c1 j (by omega) h
    rw [if_pos d1, if_neg d2, if_pos h]
    have c2 : ∀ v, v < 11 → ∀ j, j < 21 → 10 < j → j ≤ 10 + v → (nI v - (nI j - 10)) &&& 31 = nI (v + 10 - j) := by decide
    unfold mo_d1 as_g
    rw [c2 v (by omega) j (by omega) h h1, bit _ (by omega)]
    have e : (nI (a / 2 ^ (v + 10 - j) % 2) = 1) ↔ a / 2 ^ (v + 10 - j) % 2 = 1 := nI_eq (b := 1) (by omega) (by omega)
    have dd : decide (nI (a / 2 ^ (v + 10 - j) % 2) = 1) = decide (a / 2 ^ (v + 10 - j) % 2 = 1) := decide_eq_decide.mpr e
    rw [show v - 1 - (j - 11) = v + 10 - j by omega, Nat.testBit_eq_decide_div_mod_eq, dd]
    simp [show j - 11 < v by omega]
  · have c1 : ∀ j, j < 21 → ¬ 10 < j → j ≠ 10 → ¬ ((0 : Int32) ≤ nI j - 10) ∧ (nI j - 10 ≤ 0) := by decide
    obtain ⟨d1, d2⟩ := c1 j (by omega) h h10
    rw [if_neg d1, if_pos d2, if_neg h]
    have c2 : ∀ v, v < 11 → ∀ j, j < 21 → ¬ 10 < j → 10 ≤ j + v → (nI v - (-(nI j - 10))) &&& 31 = nI (v + j - 10) := by decide
    unfold mo_d0 as_g
    rw [c2 v (by omega) j (by omega) h h2, bit _ (by omega)]
    have e : (nI (a / 2 ^ (v + j - 10) % 2) = 0) ↔ a / 2 ^ (v + j - 10) % 2 = 0 := nI_eq (b := 0) (by omega) (by omega)
    have dd : decide (nI (a / 2 ^ (v + j - 10) % 2) = 0) = decide (a / 2 ^ (v + j - 10) % 2 = 0) := decide_eq_decide.mpr e
    rw [show v - 1 - (9 - j) = v + j - 10 by omega, Nat.testBit_eq_decide_div_mod_eq, dd]
    rcases Nat.mod_two_eq_zero_or_one (a / 2 ^ (v + j - 10)) with z | z
    · rw [z]; simp
    · rw [z]; simp [show 9 - j < v by omega]
theorem cl_mask_0 {ls : List Int32} {K : Int32} : (cl_mask ls &&& K) = 0 ↔ ∀ y, y ∈ ls → (cl_bit y &&& K) = 0 := by
  induction ls with
  | nil =>
    refine ⟨fun _ y hy => (by cases hy), fun _ => ?_⟩
    show (0 : Int32) &&& K = 0
    apply Int32.toBitVec_inj.mp
    simp
  | cons x l ih =>
    show ((cl_mask l ||| cl_bit x) &&& K) = 0 ↔ _
    rw [cl_or, ih]
    constructor
    · rintro ⟨h1, h2⟩ y hy
      rcases List.mem_cons.mp hy with z | z
      · rw [z]; exact h2
      · exact h1 y z
    · intro h
      exact ⟨fun y hy => h y (List.mem_cons_of_mem _ hy), h x (List.mem_cons_self)⟩
theorem sa_same {v i : Nat} (hv : v ≤ 10) (hi : i < 2 ^ v) : ∀ cs : fo_C, fo_gd v cs → fo_sa cs (fo_at v i) = as_Q cs (fun k => i.testBit k) := by
  intro cs
  induction cs with
  | nil => intro _; rfl
  | cons x cs ih =>
    intro h
    have ih := ih (fun y hy => h y (List.mem_cons_of_mem _ hy))
    have hx := h x (List.mem_cons_self)
    have e : (cl_mask x.2 &&& fo_at v i) = 0 ↔ x.2.any (as_y (fun k => i.testBit k)) = false := by
      rw [cl_mask_0, List.any_eq_false]
      constructor
      · intro z y hy
        obtain ⟨j, b1, rfl, b2, b3, b4⟩ := fo_l_j hv (hx y hy)
        rw [as_y_j b1, (at_lit hv hi b1 b2 b3 b4).mp (z _ hy)]
        decide
      · intro z y hy
        have z2 := z y hy
        obtain ⟨j, b1, rfl, b2, b3, b4⟩ := fo_l_j hv (hx y hy)
        rw [as_y_j b1] at z2
        exact (at_lit hv hi b1 b2 b3 b4).mpr (Bool.eq_false_iff.mpr z2)
    unfold as_Q at ih ⊢
    rw [fo_sa.eq_2, List.all_cons]
    by_cases hc : (cl_mask x.2 &&& fo_at v i) = 0
    · rw [if_pos hc, e.mp hc]
      rfl
    · rw [if_neg hc, ih]
      have : x.2.any (as_y (fun k => i.testBit k)) = true := by
        cases hz : x.2.any (as_y (fun k => i.testBit k)) with
        | true => rfl
        | false => exact absurd (e.mpr hz) hc
      rw [this, Bool.true_and]
theorem mo_on_e {lt : Nat → Int32} {va a : Int32} : ∀ (d p : Nat) (b : Bool), mo_on lt va a d p b = true ↔ (b = true ∨ ∃ i, i < d ∧ mo_it va a (lt (p + i)) = true) := by
  intro d
  induction d with
  | zero =>
    intro p b
    refine ⟨fun h => Or.inl h, fun h => ?_⟩
    rcases h with h | ⟨i, hi, -⟩
    · exact h
    · exact absurd hi (Nat.not_lt_zero _)
  | succ d ih =>
    intro p b
    rw [mo_on.eq_2, ih, Bool.or_eq_true]
    constructor
    · rintro ((h | h) | ⟨i, hi, h⟩)
      · exact Or.inl h
      · exact Or.inr ⟨0, by omega, h⟩
      · exact Or.inr ⟨i + 1, by omega, by rw [show p + (i + 1) = p + 1 + i by omega]; exact h⟩
    · rintro (h | ⟨i, hi, h⟩)
      · exact Or.inl (Or.inl h)
      · cases i with
        | zero => exact Or.inl (Or.inr h)
        | succ i => exact Or.inr ⟨i, by omega, by rw [show p + 1 + i = p + (i + 1) by omega]; exact h⟩
theorem mo_sa_e {ma lt : Nat → Int32} {va a : Int32} : ∀ (d k : Nat) (b : Bool), mo_sa ma lt va a d k b = true ↔ (b = true ∧ ∀ i, i < d → mo_on lt va a (ma (k + i)).toNatClampNeg (6 * (k + i)) false = true) := by
  intro d
  induction d with
  | zero =>
    intro k b
    exact ⟨fun h => ⟨h, fun i hi => absurd hi (Nat.not_lt_zero _)⟩, fun h => h.1⟩
  | succ d ih =>
    intro k b
    rw [mo_sa.eq_2]
    by_cases hb : b = true
    · rw [if_pos hb, ih]
      constructor
      · rintro ⟨h1, h2⟩
        refine ⟨hb, fun i hi => ?_⟩
        cases i with
        | zero => exact h1
        | succ i => rw [show k + (i + 1) = k + 1 + i by omega]; exact h2 i (by omega)
      · rintro ⟨-, h⟩
        refine ⟨h 0 (by omega), fun i hi => ?_⟩
        rw [show k + 1 + i = k + (i + 1) by omega]; exact h (i + 1) (by omega)
    · rw [if_neg hb]
      exact ⟨fun h => absurd h hb, fun h => absurd h.1 hb⟩
theorem sf_same {v a : Nat} {cs : fo_C} {ma lt : Nat → Int32} (hv : v ≤ 10) (ha : a < 2 ^ v) (hg : fo_gd v cs) (hs : mo_sb 0 cs.length (cs.map (·.2)) ma lt) : mo_sf ma lt (nI v) cs.length a = as_Q cs (as_g v a) := by
  have key : mo_sf ma lt (nI v) cs.length a = true ↔ as_Q cs (as_g v a) = true := by
    unfold mo_sf as_Q
    rw [mo_sa_e, List.all_eq_true]
    have one : ∀ i (hi : i < cs.length), (mo_on lt (nI v) (nI a) (ma (0 + i)).toNatClampNeg (6 * (0 + i)) false = true ↔ cs[i].2.any (as_y (as_g v a)) = true) := by
      intro i hi
      have hx : (cs.map (·.2))[i]? = some cs[i].2 := by rw [List.getElem?_map, List.getElem?_eq_getElem hi]; rfl
      obtain ⟨m1, m2⟩ := hs i cs[i].2 hi hx
      rw [m1, nI_clamp (by have := m2.1; omega), mo_on_e, List.any_eq_true]
      constructor
      · rintro (h | ⟨k, hk, h⟩)
        · cases h
        · refine ⟨lt (6 * (0 + i) + k), (cl_ar_m m2).mp ⟨k, hk, rfl⟩, ?_⟩
          have hm := (cl_ar_m (x := lt (6 * (0 + i) + k)) m2).mp ⟨k, hk, rfl⟩
          obtain ⟨j, b1, b5, b2, b3, b4⟩ := fo_l_j hv (hg cs[i] (List.getElem_mem hi) _ hm)
          rw [b5] at h ⊢
          rw [as_y_j b1, ← it_lit hv ha b1 b2 b3 b4]
          exact h
      · rintro ⟨y, hy, h⟩
        obtain ⟨k, hk, he⟩ := (cl_ar_m m2).mpr hy
        refine Or.inr ⟨k, hk, ?_⟩
        have he : lt (6 * (0 + i) + k) = y := he
        obtain ⟨j, b1, b5, b2, b3, b4⟩ := fo_l_j hv (hg cs[i] (List.getElem_mem hi) _ hy)
        rw [he]
        subst b5
        rw [as_y_j b1, ← it_lit hv ha b1 b2 b3 b4] at h
        exact h
    constructor
    · rintro ⟨-, h⟩ x hx
      obtain ⟨i, hi, rfl⟩ := List.mem_iff_getElem.mp hx
      exact (one i hi).mp (h i hi)
    · intro h
      exact ⟨rfl, fun i hi => (one i hi).mpr (h _ (List.getElem_mem hi))⟩
  cases h1 : mo_sf ma lt (nI v) cs.length a <;> cases h2 : as_Q cs (as_g v a)
  · rfl
  · rw [h1, h2] at key; exact absurd (key.mpr rfl) (by decide)
  · rw [h1, h2] at key; exact absurd (key.mp rfl) (by decide)
  · rfl
theorem fo_cn_e {cs : fo_C} {v : Nat} : ∀ (d i : Nat), fo_cn cs v d i = mo_cf (fun i => fo_sa cs (fo_at v i)) d i := by
  intro d
  induction d with
  | zero => intro i; rfl
  | succ d ih => intro i; rw [fo_cn.eq_2, mo_cf.eq_2, ih]
/-- both count alike -/
theorem count_same {v : Nat} {cs : fo_C} {ma lt : Nat → Int32} (hv : v ≤ 10) (hg : fo_gd v cs) (hs : mo_sb 0 cs.length (cs.map (·.2)) ma lt) : fo_n cs v = mo_cf (mo_sf ma lt (nI v) cs.length) (2 ^ v) 0 := by
  unfold fo_n
  rw [fo_cn_e]
  rw [cf_ext (S' := fun i => as_Q cs (fun k => i.testBit k)) (2 ^ v) 0 0 (fun i hi => by rw [Nat.zero_add]; exact sa_same hv hi cs hg)]
  rw [as_TL v (as_Q cs), ← as_TM v (as_Q cs)]
  refine cf_ext (2 ^ v) 0 0 (fun i hi => ?_)
  rw [Nat.zero_add]
  exact (sf_same hv hi hg hs).symm
