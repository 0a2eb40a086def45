/-- a literal of a formula with v variables -/
def fo_l (v : Nat) (y : Int32) : Prop := tx_in y (-(nI v)) (nI v) = true ∧ ¬ y = 0
def fo_gd (v : Nat) (cs : fo_C) : Prop := ∀ x, x ∈ cs → ∀ y, y ∈ x.2 → fo_l v y
theorem cl_in_g {f : Nat → Int32} {L : Nat} {sk : Int32} {v : Nat} : ∀ (k : Nat) (q : Nat × Nat) (ls ls' : List Int32) (q' : Nat × Nat), (∀ y, y ∈ ls → fo_l v y) → cl_in f L sk (nI v) k q ls = (some ls', q') → ∀ y, y ∈ ls' → fo_l v y := by
  intro k
  induction k with
  | zero => intro q ls ls' q' _ h; cases h
  | succ k ih =>
    intro q ls ls' q' hl h
    rw [cl_in.eq_2] at h
    cases hnum : tx_num f q.1 q.2 with
    | none => rw [hnum] at h; cases h
    | some x =>
      rw [hnum] at h
      have h : (if tx_in x (-(nI v)) (nI v) = true then (if x = 0 then (some ls, tx_adv f L sk q.2) else if ¬ (cl_mask ls &&& cl_bit x) = 0 then cl_in f L sk (nI v) k (tx_adv f L sk q.2) ls else if ls.length < 6 then cl_in f L sk (nI v) k (tx_adv f L sk q.2) (x :: ls) else (none, q)) else (none, q)) = (some ls', q') := h
      by_cases h1 : tx_in x (-(nI v)) (nI v) = true
      rotate_left
      · rw [if_neg h1] at h; cases h
      rw [if_pos h1] at h
      by_cases h2 : x = 0
      · rw [if_pos h2] at h
        cases h
        exact hl
      rw [if_neg h2] at h
      by_cases h3 : ¬ (cl_mask ls &&& cl_bit x) = 0
      · rw [if_pos h3] at h
        exact ih _ _ _ _ hl h
      rw [if_neg h3] at h
      by_cases h4 : ls.length < 6
      · rw [if_pos h4] at h
        refine ih _ _ _ _ (fun y hy => ?_) h
        rcases List.mem_cons.mp hy with z | z
        · rw [z]; exact ⟨h1, h2⟩
        · exact hl y z
      · rw [if_neg h4] at h; cases h
theorem fg_cl_g {f : Nat → Int32} {L : Nat} {sk : Int32} {v : Nat} : ∀ (d : Nat) (q : Nat × Nat) (cs cs' : fo_C) (q' : Nat × Nat), fo_gd v cs → fg_cl f L sk (nI v) d q cs = (some cs', q') → fo_gd v cs' := by
  intro d
  induction d with
  | zero => intro q cs cs' q' h0 h; cases h; exact h0
  | succ d ih =>
    intro q cs cs' q' h0 h
    rw [fg_cl.eq_2] at h
    cases hc : cl_in f L sk (nI v) 160 q [] with
    | mk o q2 =>
      rw [hc] at h
      cases o with
      | none => cases h
      | some ls =>
        refine ih _ _ _ _ (fun x hx => ?_) h
        rcases List.mem_append.mp hx with z | z
        · exact h0 x z
        · rw [List.mem_singleton] at z
          subst z
          exact cl_in_g _ _ _ _ _ (fun y hy => by cases hy) hc
theorem fg_in_g {f : Nat → Int32} {L v : Nat} {cs : fo_C} {q : Nat × Nat} (h : fg_in f L = (some (nI v, cs), q)) (hv : v < 2 ^ 31) : fo_gd v cs := by
  unfold fg_in fg_ia at h
  split at h
  rotate_left
  · cases h
  unfold fg_ib at h
  split at h
  rotate_left
  · cases h
  unfold fg_ic at h
  split at h
  · cases h
  split at h
  rotate_left
  · cases h
  unfold fg_id at h
  split at h
  · cases h
  split at h
  rotate_left
  · cases h
  unfold fg_ie at h
  split at h
  · cases h
  rename_i hcl
  split at h
  · cases h
  cases h
  exact fg_cl_g _ _ _ _ _ (fun x hx => by cases hx) hcl
/-- its place: y = j - 10 -/
theorem fo_l_j {v : Nat} (hv : v ≤ 10) {y : Int32} (h : fo_l v y) : ∃ j : Nat, j ≤ 20 ∧ y = nI j - 10 ∧ j ≠ 10 ∧ j ≤ 10 + v ∧ 10 ≤ j + v := by
  obtain ⟨h1, h2⟩ := h
  obtain ⟨j, hj, rfl⟩ := mo_l_in hv h1
  refine ⟨j, hj, rfl, ?_, ?_⟩
  · rintro rfl
    exact h2 (by decide)
  · have e : ∀ v, v < 11 → ∀ j, j < 21 → tx_in (nI j - 10) (-(nI v)) (nI v) = true → j ≤ 10 + v ∧ 10 ≤ j + v := by decide
    exact e v (by omega) j (by omega) h1
/-- whether a literal is true where the variables are told by s -/
def as_l (s : Nat → Bool) (j : Nat) : Bool := if 10 < j then s (j - 11) else !s (9 - j)
def as_y (s : Nat → Bool) (y : Int32) : Bool := as_l s (y + 10).toNatClampNeg
def as_Q (cs : fo_C) (s : Nat → Bool) : Bool := cs.all (fun x => x.2.any (as_y s))
theorem as_y_j {s : Nat → Bool} {j : Nat} (hj : j ≤ 20) : as_y s (nI j - 10) = as_l s j := by
  unfold as_y
  have e : ∀ j, j < 21 → (nI j - 10 + 10).toNatClampNeg = j := by decide
  rw [e j (by omega)]
def as_x (s : Nat → Bool) (v : Nat) (b : Bool) : Nat → Bool := fun k => if k = v then b else s k
def as_T : Nat → ((Nat → Bool) → Bool) → Nat
  | 0, Q => if Q (fun _ => false) = true then 1 else 0
  | v + 1, Q => as_T v (fun s => Q (as_x s v false)) + as_T v (fun s => Q (as_x s v true))
theorem cf_add (S : Nat → Bool) : ∀ (d1 d2 a : Nat), mo_cf S (d1 + d2) a = mo_cf S d1 a + mo_cf S d2 (a + d1) := by
  intro d1
  induction d1 with
  | zero => intro d2 a; rw [Nat.zero_add, mo_cf.eq_1, Nat.zero_add, Nat.add_zero]
  | succ d1 ih =>
    intro d2 a
    rw [show d1 + 1 + d2 = (d1 + d2) + 1 by omega, mo_cf.eq_2, mo_cf.eq_2, ih, show a + 1 + d1 = a + (d1 + 1) by omega]
    omega
theorem cf_ext {S S' : Nat → Bool} : ∀ (d a a' : Nat), (∀ i, i < d → S (a + i) = S' (a' + i)) → mo_cf S d a = mo_cf S' d a' := by
  intro d
  induction d with
  | zero => intro a a' _; rfl
  | succ d ih =>
    intro a a' h
    rw [mo_cf.eq_2, mo_cf.eq_2, ih (a + 1) (a' + 1) (fun i hi => by
      have := h (i + 1) (by omega)
      rw [show a + 1 + i = a + (i + 1) by omega, show a' + 1 + i = a' + (i + 1) by omega]; exact this)]
    have h0 := h 0 (by omega)
    rw [Nat.add_zero, Nat.add_zero] at h0
    rw [h0]
theorem cf_2 (S : Nat → Bool) : ∀ (d a : Nat), mo_cf S (2 * d) (2 * a) = mo_cf (fun j => S (2 * j)) d a + mo_cf (fun j => S (2 * j + 1)) d a := by
  intro d
  induction d with
  | zero => intro a; rfl
  | succ d ih =>
    intro a
    rw [show 2 * (d + 1) = (2 * d + 1) + 1 by omega, mo_cf.eq_2, mo_cf.eq_2, show 2 * a + 1 + 1 = 2 * (a + 1) by omega, ih (a + 1), mo_cf.eq_2, mo_cf.eq_2]
    omega
theorem as_TL : ∀ (v : Nat) (Q : (Nat → Bool) → Bool), mo_cf (fun i => Q (fun k => i.testBit k)) (2 ^ v) 0 = as_T v Q := by
  intro v
  induction v with
  | zero =>
    intro Q
    show (if Q (fun k => Nat.testBit 0 k) = true then 1 else 0) + 0 = _
    rw [show (fun k => Nat.testBit 0 k) = (fun _ => false) from funext fun k => Nat.zero_testBit k, Nat.add_zero]
    rfl
  | succ v ih =>
    intro Q
    rw [Nat.pow_succ, Nat.mul_two, cf_add, as_T.eq_2, ← ih, ← ih, Nat.zero_add]
    congr 1
    · refine cf_ext _ _ _ (fun i hi => ?_)
      rw [Nat.zero_add]
      show Q (fun k => i.testBit k) = Q (as_x (fun k => i.testBit k) v false)
      congr 1
      funext k
      unfold as_x
      split
      · rename_i e
        subst e
        exact Nat.testBit_lt_two_pow hi
      · rfl
    · refine cf_ext _ _ _ (fun i hi => ?_)
      rw [Nat.zero_add]
      show Q (fun k => (2 ^ v + i).testBit k) = Q (as_x (fun k => i.testBit k) v true)
      congr 1
      funext k
      unfold as_x
      split
      · rename_i e
        subst e
        rw [Nat.testBit_two_pow_add_eq, Nat.testBit_lt_two_pow hi]
        rfl
      · rename_i e
        rcases Nat.lt_or_gt_of_ne e with z | z
        · exact Nat.testBit_two_pow_add_gt z i
        · have h1 : 2 ^ v + i < 2 ^ k := Nat.lt_of_lt_of_le (by rw [Nat.pow_succ]; omega : 2 ^ v + i < 2 ^ (v + 1)) (Nat.pow_le_pow_right (by decide) z)
          have h2 : i < 2 ^ k := by omega
          exact (Nat.testBit_lt_two_pow h1).trans (Nat.testBit_lt_two_pow h2).symm
def as_g (v a : Nat) : Nat → Bool := fun k => decide (k < v) && a.testBit (v - 1 - k)
theorem as_TM : ∀ (v : Nat) (Q : (Nat → Bool) → Bool), mo_cf (fun a => Q (as_g v a)) (2 ^ v) 0 = as_T v Q := by
  intro v
  induction v with
  | zero =>
    intro Q
    show (if Q (as_g 0 0) = true then 1 else 0) + 0 = _
    rw [show as_g 0 0 = (fun _ => false) from funext fun k => by simp [as_g], Nat.add_zero]
    rfl
  | succ v ih =>
    intro Q
    have hx : ∀ (j : Nat) (b : Bool), as_g (v + 1) (2 * j + (if b = true then 1 else 0)) = as_x (as_g v j) v b := by
      intro j b
      funext k
      unfold as_g as_x
      by_cases hk : k = v
      · subst hk
        rw [if_pos rfl, show k + 1 - 1 - k = 0 by omega, Nat.testBit_zero]
        cases b <;> simp <;> omega
      · rw [if_neg hk]
        by_cases hkv : k < v
        · rw [show v + 1 - 1 - k = (v - 1 - k) + 1 by omega, Nat.testBit_succ]
          have e2 : (2 * j + (if b = true then 1 else 0)) / 2 = j := by cases b <;> simp <;> omega
          rw [e2]
          simp [hkv, show k < v + 1 by omega]
        · simp [hkv, show ¬ k < v + 1 by omega]
    have e := cf_2 (fun a => Q (as_g (v + 1) a)) (2 ^ v) 0
    rw [Nat.mul_zero] at e
    rw [Nat.pow_succ, Nat.mul_comm, e, as_T.eq_2, ← ih, ← ih]
    congr 1
    · refine cf_ext _ _ _ (fun i hi => ?_)
      have := hx (0 + i) false
      simp only [Bool.false_eq_true, if_false, Nat.add_zero] at this
      show Q (as_g (v + 1) (2 * (0 + i))) = Q (as_x (as_g v (0 + i)) v false)
      rw [this]
    · refine cf_ext _ _ _ (fun i hi => ?_)
      have := hx (0 + i) true
      simp only [if_true] at this
      show Q (as_g (v + 1) (2 * (0 + i) + 1)) = Q (as_x (as_g v (0 + i)) v true)
      rw [this]
