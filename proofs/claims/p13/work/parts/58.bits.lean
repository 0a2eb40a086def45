/-- a literal's place is in a mask -/
def bt (M : Int32) (e : Nat) : Prop := (cx_U M).testBit e = true
def op_e (e : Nat) : Nat := if e < 10 then e + 10 else e - 10
def b20 (M : Int32) : Prop := cx_U M < 2 ^ 20
def sb (e : Nat) : Int32 := nI (2 ^ e)
theorem op_op {e : Nat} (h : e < 20) : op_e (op_e e) = e := by
  unfold op_e
  by_cases h1 : e < 10
  · rw [if_pos h1, if_neg (by omega)]; omega
  · rw [if_neg h1, if_pos (by omega)]; omega
theorem op_lt {e : Nat} (h : e < 20) : op_e e < 20 := by unfold op_e; split <;> omega
theorem op_ne {e : Nat} (h : e < 20) : op_e e ≠ e := by unfold op_e; split <;> omega
section
variable {a b : Int32} {e : Nat}
theorem bt_or : bt (a ||| b) e ↔ (bt a e ∨ bt b e) := by
  unfold bt
  rw [cx_U_or, Nat.testBit_or, Bool.or_eq_true]
theorem bt_and : bt (a &&& b) e ↔ (bt a e ∧ bt b e) := by
  unfold bt
  rw [cx_U_and, Nat.testBit_and, Bool.and_eq_true]
theorem bt_32 (h : 32 ≤ e) : ¬ bt a e := by
  unfold bt
  have h1 : cx_U a < 2 ^ e := Nat.lt_of_lt_of_le (cx_U_lt a) (Nat.pow_le_pow_right (n := 2) (by decide) h)
  rw [Nat.testBit_lt_two_pow h1]
  decide
theorem m1_b32 : ∀ e, e < 32 → (cx_U (-1 : Int32)).testBit e = true := by decide
theorem bt_an : bt (a &&& (b ^^^ (-1 : Int32))) e ↔ (bt a e ∧ ¬ bt b e) := by
  rw [bt_and]
  by_cases h : e < 32
  · have e1 : bt (b ^^^ (-1 : Int32)) e ↔ ¬ bt b e := by
      unfold bt
      rw [cx_U_xor, Nat.testBit_xor, m1_b32 e h]
      cases (cx_U b).testBit e <;> simp
    rw [e1]
  · exact ⟨fun z => absurd z.1 (bt_32 (by omega)), fun z => absurd z.1 (bt_32 (by omega))⟩
theorem bt_lt (h : b20 a) (he : bt a e) : e < 20 := by
  rcases Nat.lt_or_ge e 20 with z | z
  · exact z
  · unfold bt at he
    rw [Nat.testBit_lt_two_pow (Nat.lt_of_lt_of_le h (Nat.pow_le_pow_right (by decide) z))] at he
    cases he
theorem bt_ext (h : ∀ e, bt a e ↔ bt b e) : a = b := by
  rw [nI_U (K := a) rfl, nI_U (K := b) rfl]
  congr 1
  apply Nat.eq_of_testBit_eq
  intro e
  have := h e
  unfold bt at this
  cases h1 : (cx_U a).testBit e <;> cases h2 : (cx_U b).testBit e <;> rw [h1, h2] at this
  · exact absurd (this.mpr rfl) (by decide)
  · exact absurd (this.mp rfl) (by decide)
theorem bt_z : ¬ bt 0 e := by
  unfold bt
  rw [show cx_U (0 : Int32) = 0 from rfl, Nat.zero_testBit]
  decide
theorem bt_0 : a = 0 ↔ ∀ e, ¬ bt a e := by
  refine ⟨fun h e => ?_, fun h => bt_ext (fun e => ⟨fun z => absurd z (h e), fun z => absurd z bt_z⟩)⟩
  rw [h]; exact bt_z
theorem bt_n0 (h : ¬ a = 0) : ∃ e, bt a e := Classical.byContradiction fun z => h (bt_0.mpr (fun e he => z ⟨e, he⟩))
theorem b20_or (ha : b20 a) (hb : b20 b) : b20 (a ||| b) := by
  unfold b20
  rw [cx_U_or]
  exact Nat.or_lt_two_pow ha hb
theorem b20_an (ha : b20 a) : b20 (a &&& b) := by
  unfold b20
  rw [cx_U_and]
  exact Nat.lt_of_le_of_lt Nat.and_le_left ha
theorem b20_0 : b20 0 := by unfold b20; decide
theorem sb_U (h : e < 32) : cx_U (sb e) = 2 ^ e := pk_tn (Nat.pow_lt_pow_right (by decide) h)
theorem b20_sb (h : e < 20) : b20 (sb e) := by
  unfold b20
  rw [sb_U (by omega)]
  exact Nat.pow_lt_pow_right (by decide) h
theorem bt_sb (h : e < 32) {x : Nat} : bt (sb e) x ↔ x = e := by
  unfold bt
  rw [sb_U h, Nat.testBit_two_pow, decide_eq_true_eq]
  exact ⟨fun z => z.symm, fun z => z.symm⟩
theorem bt_op (ha : b20 a) : bt (cx_op a) e ↔ (e < 20 ∧ bt a (op_e e)) := by
  have hA : a = nI (cx_U a) := nI_U rfl
  have hbig : ∀ k, 20 ≤ k → (cx_U a).testBit k = false := fun k hk => Nat.testBit_lt_two_pow (Nat.lt_of_lt_of_le ha (Nat.pow_le_pow_right (by decide) hk))
  unfold bt
  rw [hA, cx_op_U ha, ← hA, Nat.testBit_and, Nat.testBit_or, Nat.testBit_shiftLeft, Nat.testBit_shiftRight, Nat.testBit_two_pow_sub_one]
  unfold op_e
  by_cases h : e < 20
  · by_cases h1 : e < 10
    · rw [if_pos h1, show 10 + e = e + 10 by omega]
      simp [h, show ¬ 10 ≤ e by omega]
    · rw [if_neg h1, hbig (10 + e) (by omega)]
      simp [h, show 10 ≤ e by omega]
  · simp [h]
theorem b20_op : b20 (cx_op a) := by
  unfold b20 cx_op
  rw [cx_U_and]
  exact Nat.lt_of_le_of_lt Nat.and_le_right (by decide)
theorem b20_pos (h : b20 a) : ¬ a = -1 ∧ ¬ a = -2 ∧ 0 ≤ a := by
  refine ⟨fun z => ?_, fun z => ?_, ?_⟩
  · rw [z] at h; exact absurd h (by unfold b20; decide)
  · rw [z] at h; exact absurd h (by unfold b20; decide)
  · rw [nI_U (K := a) rfl]
    exact nI_pos' (by have : cx_U a < 2 ^ 20 := h; omega)
end
theorem pc_0 : ∀ (k m : Nat), m < 2 ^ k → pc_n k m = 0 → m = 0 := by
  intro k
  induction k with
  | zero => intro m h _; omega
  | succ k ih =>
    intro m h h2
    have h2 : m % 2 + pc_n k (m / 2) = 0 := h2
    have := ih (m / 2) (by rw [Nat.pow_succ] at h; omega) (by omega)
    omega
theorem pc_1 : ∀ (k m : Nat), m < 2 ^ k → pc_n k m = 1 → ∃ e, e < k ∧ m = 2 ^ e := by
  intro k
  induction k with
  | zero => intro m h h2; cases h2
  | succ k ih =>
    intro m h h2
    have h2 : m % 2 + pc_n k (m / 2) = 1 := h2
    have hm : m / 2 < 2 ^ k := by rw [Nat.pow_succ] at h; omega
    by_cases hc : m % 2 = 1
    · have := pc_0 k (m / 2) hm (by omega)
      exact ⟨0, by omega, by omega⟩
    · obtain ⟨e, he, h3⟩ := ih (m / 2) hm (by omega)
      refine ⟨e + 1, by omega, ?_⟩
      rw [Nat.pow_succ, ← h3]
      omega
theorem pc_sb {e : Nat} (h : e < 32) : pc_n 32 (2 ^ e) = 1 := by
  have h0 := pc_up 32 0 e h (Nat.zero_testBit e)
  rw [Nat.zero_or] at h0
  have hz : pc_n 32 0 = 0 := by decide
  rw [hz] at h0
  exact h0
theorem bc_1 {u : Int32} : cx_bc u = 1 ↔ ∃ e, e < 32 ∧ u = sb e := by
  have hU : cx_U (1 : Int32) = 1 := by decide
  constructor
  · intro h
    have h1 := cx_bc_eq u
    rw [h, hU] at h1
    obtain ⟨e, he, h2⟩ := pc_1 32 (cx_U u) (cx_U_lt u) h1.symm
    exact ⟨e, he, nI_U h2⟩
  · rintro ⟨e, he, rfl⟩
    have h1 := cx_bc_eq (sb e)
    rw [sb_U he, pc_sb he] at h1
    exact nI_U h1
theorem fo_cases {a k : Int32} (ha : b20 a) (hk : b20 k) : (cx_fo a k = -1 ∧ ∀ e, bt a e → bt k (op_e e)) ∨ (cx_fo a k = -2 ∧ ∃ e, bt a e ∧ ¬ bt k (op_e e) ∧ (bt k e ∨ ∃ e', e' ≠ e ∧ bt a e' ∧ ¬ bt k (op_e e'))) ∨ (∃ e, e < 20 ∧ bt a e ∧ ¬ bt k (op_e e) ∧ ¬ bt k e ∧ (∀ e', bt a e' → e' ≠ e → bt k (op_e e')) ∧ cx_fo a k = (k ||| sb e)) := by
  have hu : ∀ e, bt (cx_un a k) e ↔ (bt a e ∧ ¬ bt k (op_e e)) := by
    intro e
    unfold cx_un
    rw [bt_an, bt_op hk]
    constructor
    · rintro ⟨h1, h2⟩
      exact ⟨h1, fun z => h2 ⟨bt_lt ha h1, z⟩⟩
    · rintro ⟨h1, h2⟩
      exact ⟨h1, fun z => h2 z.2⟩
  unfold cx_fo
  by_cases h0 : cx_un a k = 0
  · left
    rw [if_pos h0]
    refine ⟨rfl, fun e he => Classical.byContradiction fun z => ?_⟩
    exact bt_0.mp h0 e ((hu e).mpr ⟨he, z⟩)
  rw [if_neg h0]
  right
  obtain ⟨e, he⟩ := bt_n0 h0
  obtain ⟨he1, he2⟩ := (hu e).mp he
  have he20 := bt_lt ha he1
  by_cases h1 : cx_bc (cx_un a k) = 1
  · obtain ⟨e2, he32, hsb⟩ := bc_1.mp h1
    have hee : e = e2 := by rw [hsb, bt_sb he32] at he; exact he
    subst hee
    have hot : ∀ e', bt a e' → e' ≠ e → bt k (op_e e') := fun e' h2 h3 => Classical.byContradiction fun z => h3 (by
      have := (hu e').mpr ⟨h2, z⟩
      rw [hsb, bt_sb he32] at this
      exact this)
    by_cases h2 : (cx_un a k &&& k) = 0
    · right
      rw [if_pos ⟨h1, h2⟩]
      refine ⟨e, he20, he1, he2, fun z => ?_, hot, by rw [hsb]⟩
      exact bt_0.mp h2 e (bt_and.mpr ⟨he, z⟩)
    · left
      rw [if_neg (fun z => h2 z.2)]
      refine ⟨rfl, e, he1, he2, Or.inl ?_⟩
      obtain ⟨e3, h3⟩ := bt_n0 h2
      obtain ⟨h4, h5⟩ := bt_and.mp h3
      rw [hsb, bt_sb he32] at h4
      rw [← h4]; exact h5
  · left
    rw [if_neg (fun z => h1 z.1)]
    refine ⟨rfl, e, he1, he2, Or.inr (Classical.byContradiction fun z => h1 (bc_1.mpr ⟨e, by omega, bt_ext (fun x => ?_)⟩))⟩
    rw [bt_sb (by omega)]
    constructor
    · intro hx
      exact Classical.byContradiction fun hne => z ⟨x, hne, (hu x).mp hx⟩
    · rintro rfl
      exact he
