def cx_P (x : Int32) : Nat := pc_n 32 (cx_U x)
theorem pc_or : ∀ (k a b : Nat), pc_n k (a ||| b) ≤ pc_n k a + pc_n k b := by
  intro k
  induction k with
  | zero => intro a b; exact Nat.le_refl _
  | succ k ih =>
    intro a b
    simp only [pc_n]
    have h1 : (a ||| b) / 2 ^ 1 = a / 2 ^ 1 ||| b / 2 ^ 1 := Nat.or_div_two_pow
    have h2 : (a ||| b) % 2 ^ 1 = a % 2 ^ 1 ||| b % 2 ^ 1 := Nat.or_mod_two_pow
    rw [Nat.pow_one] at h1 h2
    rw [h1, h2]
    have h3 := ih (a / 2) (b / 2)
    have h4 : (a % 2 ||| b % 2) ≤ a % 2 + b % 2 := by
      rcases Nat.mod_two_eq_zero_or_one a with x | x <;> rcases Nat.mod_two_eq_zero_or_one b with y | y <;> rw [x, y] <;> decide
    omega
theorem pc_and : ∀ (k a b : Nat), pc_n k (a &&& b) ≤ pc_n k a := by
  intro k
  induction k with
  | zero => intro a b; exact Nat.le_refl _
  | succ k ih =>
    intro a b
    simp only [pc_n]
    have h1 : (a &&& b) / 2 ^ 1 = a / 2 ^ 1 &&& b / 2 ^ 1 := Nat.and_div_two_pow
    have h2 : (a &&& b) % 2 ^ 1 = a % 2 ^ 1 &&& b % 2 ^ 1 := Nat.and_mod_two_pow
    rw [Nat.pow_one] at h1 h2
    rw [h1, h2]
    have h3 := ih (a / 2) (b / 2)
    have h4 : (a % 2 &&& b % 2) ≤ a % 2 := by
      rcases Nat.mod_two_eq_zero_or_one a with x | x <;> rcases Nat.mod_two_eq_zero_or_one b with y | y <;> rw [x, y] <;> decide
    omega
theorem cx_P_or (a b : Int32) : cx_P (a ||| b) ≤ cx_P a + cx_P b := by
  unfold cx_P
  rw [show cx_U (a ||| b) = cx_U a ||| cx_U b from BitVec.toNat_or a.toBitVec b.toBitVec]
  exact pc_or 32 _ _
theorem cx_P_and (a b : Int32) : cx_P (a &&& b) ≤ cx_P a := by
  unfold cx_P
  rw [cx_U_and]
  exact pc_and 32 _ _
theorem cx_P_1 {x : Int32} (h : cx_bc x = 1) : cx_P x = 1 := by
  have h1 := cx_bc_eq x
  rw [h] at h1
  exact h1.symm
theorem cx_new (k o : Int32) : (k ||| o) &&& (k ^^^ (-1 : Int32)) = o &&& (k ^^^ (-1 : Int32)) := by
  apply Int32.toBitVec_inj.mp
  simp only [Int32.toBitVec_and, Int32.toBitVec_or, Int32.toBitVec_xor]
  ext i hi
  simp only [BitVec.getElem_and, BitVec.getElem_or, BitVec.getElem_xor]
  have h9 : ∀ (i : Nat) (h : i < 32), (-1 : Int32).toBitVec[i]'h = true := by decide
  rw [h9 i hi]
  cases k.toBitVec[i] <;> cases o.toBitVec[i] <;> rfl
theorem cx_P_bit : ∀ v, v < 12 → cx_P (cl_bit (-(nI v))) ≤ 1 := by decide
