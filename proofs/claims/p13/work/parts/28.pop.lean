/-! How many bits: the five steps, byte by byte. -/
def pc_n : Nat → Nat → Nat
  | 0, _ => 0
  | k + 1, n => n % 2 + pc_n k (n / 2)
theorem pc_add : ∀ (a b n : Nat), pc_n (a + b) n = pc_n a n + pc_n b (n / 2 ^ a) := by
  intro a
  induction a with
  | zero => intro b n; simp [pc_n]
  | succ a ih =>
    intro b n
    rw [show a + 1 + b = (a + b) + 1 by omega]
    simp only [pc_n]
    rw [ih b (n / 2), Nat.div_div_eq_div_mul, show 2 * 2 ^ a = 2 ^ (a + 1) by rw [Nat.pow_succ, Nat.mul_comm]]
    omega
theorem pc_mod8 : ∀ (r q : Nat), r < 256 → pc_n 8 (r + 256 * q) = pc_n 8 r := by
  intro r q hr
  simp only [pc_n]
  omega
def pb_1 (r : Nat) : Nat := r - (r / 2 &&& 85)
def pb_2 (y : Nat) : Nat := (y &&& 51) + (y / 4 &&& 51)
def pb_3 (z : Nat) : Nat := (z + z / 16) % 16
set_option maxRecDepth 100000 in
theorem pb_f1 : ∀ r, r < 256 → ∀ p, p < 2 → (r / 2 + 128 * p) &&& 85 = r / 2 &&& 85 := by decide
set_option maxRecDepth 100000 in
theorem pb_b1 : ∀ r, r < 256 → (r / 2 &&& 85) ≤ r := by decide
set_option maxRecDepth 100000 in
theorem pb_f2 : ∀ r, r < 256 → ∀ p, p < 4 → (r / 4 + 64 * p) &&& 51 = r / 4 &&& 51 := by decide
set_option maxRecDepth 100000 in
theorem pb_b2 : ∀ r, r < 256 → pb_2 (pb_1 r) / 16 ≤ 4 ∧ pb_2 (pb_1 r) % 16 ≤ 4 := by decide
set_option maxRecDepth 100000 in
theorem pb_f3 : ∀ z, z < 69 → ∀ p, p < 5 → (z + z / 16 + 16 * p) &&& 15 = (z + z / 16) % 16 := by decide
set_option maxRecDepth 100000 in
theorem pb_8 : ∀ r, r < 256 → pb_3 (pb_2 (pb_1 r)) = pc_n 8 r ∧ pc_n 8 r ≤ 8 := by decide
theorem pb_and (a m : Nat) : a &&& m = 256 * (a / 256 &&& m / 256) + (a % 256 &&& m % 256) := by
  have h1 : (a &&& m) / 2 ^ 8 = a / 2 ^ 8 &&& m / 2 ^ 8 := Nat.and_div_two_pow
  have h2 : (a &&& m) % 2 ^ 8 = a % 2 ^ 8 &&& m % 2 ^ 8 := Nat.and_mod_two_pow
  have h3 := Nat.div_add_mod (a &&& m) 256
  rw [show (256 : Nat) = 2 ^ 8 from rfl] at h3 ⊢
  rw [h1, h2] at h3
  exact h3.symm
theorem pb_and4 {a0 a1 a2 a3 m : Nat} (h0 : a0 < 256) (h1 : a1 < 256) (h2 : a2 < 256) (h3 : a3 < 256) (hm : m < 256) : (a0 + 256 * a1 + 65536 * a2 + 16777216 * a3) &&& (m + 256 * m + 65536 * m + 16777216 * m) = (a0 &&& m) + 256 * (a1 &&& m) + 65536 * (a2 &&& m) + 16777216 * (a3 &&& m) := by
  have e0 : ∀ b0 b1 b2 b3, b0 < 256 → (b0 + 256 * b1 + 65536 * b2 + 16777216 * b3) / 256 = b1 + 256 * b2 + 65536 * b3 := by intros; omega
  have e1 : ∀ b0 b1 b2 b3, b0 < 256 → (b0 + 256 * b1 + 65536 * b2 + 16777216 * b3) % 256 = b0 := by intros; omega
  have e2 : ∀ b0 b1 b2, b0 < 256 → (b0 + 256 * b1 + 65536 * b2) / 256 = b1 + 256 * b2 := by intros; omega
  have e3 : ∀ b0 b1 b2, b0 < 256 → (b0 + 256 * b1 + 65536 * b2) % 256 = b0 := by intros; omega
  have e4 : ∀ b0 b1, b0 < 256 → (b0 + 256 * b1) / 256 = b1 := by intros; omega
  have e5 : ∀ b0 b1, b0 < 256 → (b0 + 256 * b1) % 256 = b0 := by intros; omega
  rw [pb_and, e0 _ _ _ _ h0, e1 _ _ _ _ h0, e0 _ _ _ _ hm, e1 _ _ _ _ hm, pb_and (a1 + 256 * a2 + 65536 * a3), e2 _ _ _ h1, e3 _ _ _ h1, e2 _ _ _ hm, e3 _ _ _ hm, pb_and (a2 + 256 * a3), e4 _ _ h2, e5 _ _ h2, e4 _ _ hm, e5 _ _ hm]
  omega
def cx_U (x : Int32) : Nat := x.toUInt32.toNat
theorem cx_U_lt (x : Int32) : cx_U x < 4294967296 := x.toBitVec.isLt
theorem cx_U_sub (a b : Int32) : cx_U (a - b) = (4294967296 - cx_U b + cx_U a) % 4294967296 := BitVec.toNat_sub a.toBitVec b.toBitVec
theorem cx_U_add (a b : Int32) : cx_U (a + b) = (cx_U a + cx_U b) % 4294967296 := BitVec.toNat_add a.toBitVec b.toBitVec
theorem cx_U_and (a b : Int32) : cx_U (a &&& b) = cx_U a &&& cx_U b := BitVec.toNat_and a.toBitVec b.toBitVec
theorem cx_U_shr (a : Int32) (c : UInt32) : cx_U ((a.toUInt32 >>> c).toInt32) = cx_U a / 2 ^ (c.toNat % 32) := by
  show (a.toUInt32 >>> c).toNat = _
  rw [UInt32.toNat_shiftRight, Nat.shiftRight_eq_div_pow]
  rfl
theorem pb_by (u : Nat) (h : u < 4294967296) : ∃ r0 r1 r2 r3 : Nat, r0 < 256 ∧ r1 < 256 ∧ r2 < 256 ∧ r3 < 256 ∧ u = r0 + 256 * r1 + 65536 * r2 + 16777216 * r3 := ⟨u % 256, u / 256 % 256, u / 65536 % 256, u / 16777216, by omega, by omega, by omega, by omega, by omega⟩
theorem cx_bc_eq (x : Int32) : cx_U (cx_bc x) = pc_n 32 (cx_U x) := by
  obtain ⟨r0, r1, r2, r3, h0, h1, h2, h3, hu⟩ := pb_by (cx_U x) (cx_U_lt x)
  have s1 : cx_U (cx_1 x) = pb_1 r0 + 256 * pb_1 r1 + 65536 * pb_1 r2 + 16777216 * pb_1 r3 := by
    unfold cx_1
    rw [cx_U_sub, cx_U_and, cx_U_shr, hu, show cx_U 1431655765 = 85 + 256 * 85 + 65536 * 85 + 16777216 * 85 from by decide, show ((1 : Int32).toUInt32 &&& Int32.toUInt32 31).toNat % 32 = 1 from by decide]
    have e : (r0 + 256 * r1 + 65536 * r2 + 16777216 * r3) / 2 ^ 1 = (r0 / 2 + 128 * (r1 % 2)) + 256 * (r1 / 2 + 128 * (r2 % 2)) + 65536 * (r2 / 2 + 128 * (r3 % 2)) + 16777216 * (r3 / 2 + 128 * 0) := by omega
    rw [e, pb_and4 (by omega) (by omega) (by omega) (by omega) (by decide), pb_f1 r0 h0 _ (by omega), pb_f1 r1 h1 _ (by omega), pb_f1 r2 h2 _ (by omega), pb_f1 r3 h3 _ (by omega)]
    have b0 := pb_b1 r0 h0
    have b1 := pb_b1 r1 h1
    have b2 := pb_b1 r2 h2
    have b3 := pb_b1 r3 h3
    unfold pb_1
    omega
  have l0 : pb_1 r0 < 256 := by unfold pb_1; omega
  have l1 : pb_1 r1 < 256 := by unfold pb_1; omega
  have l2 : pb_1 r2 < 256 := by unfold pb_1; omega
  have l3 : pb_1 r3 < 256 := by unfold pb_1; omega
  have b0 := pb_b2 r0 h0
  have b1 := pb_b2 r1 h1
  have b2 := pb_b2 r2 h2
  have b3 := pb_b2 r3 h3
  have p0 := pb_8 r0 h0
  have p1 := pb_8 r1 h1
  have p2 := pb_8 r2 h2
  have p3 := pb_8 r3 h3
  have hp : pc_n 32 (cx_U x) = pc_n 8 r0 + pc_n 8 r1 + pc_n 8 r2 + pc_n 8 r3 := by
    rw [hu, show (32 : Nat) = 8 + (8 + (8 + 8)) from rfl, pc_add, pc_add, pc_add]
    rw [show (r0 + 256 * r1 + 65536 * r2 + 16777216 * r3) / 2 ^ 8 = r1 + 256 * (r2 + 256 * r3) by omega, show (r1 + 256 * (r2 + 256 * r3)) / 2 ^ 8 = r2 + 256 * r3 by omega, show (r2 + 256 * r3) / 2 ^ 8 = r3 by omega, show r0 + 256 * r1 + 65536 * r2 + 16777216 * r3 = r0 + 256 * (r1 + 256 * (r2 + 256 * r3)) by omega, pc_mod8 _ _ h0, pc_mod8 _ _ h1, pc_mod8 _ _ h2]
    omega
  rw [hp]
  generalize pb_1 r0 = y0 at s1 l0 b0 p0
  generalize pb_1 r1 = y1 at s1 l1 b1 p1
  generalize pb_1 r2 = y2 at s1 l2 b2 p2
  generalize pb_1 r3 = y3 at s1 l3 b3 p3
  have s2 : cx_U (cx_2 (cx_1 x)) = pb_2 y0 + 256 * pb_2 y1 + 65536 * pb_2 y2 + 16777216 * pb_2 y3 := by
    unfold cx_2
    rw [cx_U_add, cx_U_and, cx_U_and, cx_U_shr, s1, show cx_U 858993459 = 51 + 256 * 51 + 65536 * 51 + 16777216 * 51 from by decide, show ((2 : Int32).toUInt32 &&& Int32.toUInt32 31).toNat % 32 = 2 from by decide]
    have e : (y0 + 256 * y1 + 65536 * y2 + 16777216 * y3) / 2 ^ 2 = (y0 / 4 + 64 * (y1 % 4)) + 256 * (y1 / 4 + 64 * (y2 % 4)) + 65536 * (y2 / 4 + 64 * (y3 % 4)) + 16777216 * (y3 / 4 + 64 * 0) := by omega
    rw [e, pb_and4 (m := 51) l0 l1 l2 l3 (by decide), pb_and4 (m := 51) (by omega) (by omega) (by omega) (by omega) (by decide), pb_f2 y0 l0 _ (by omega), pb_f2 y1 l1 _ (by omega), pb_f2 y2 l2 _ (by omega), pb_f2 y3 l3 _ (by omega)]
    unfold pb_2 at b0 b1 b2 b3 ⊢
    omega
  generalize pb_2 y0 = z0 at s2 b0 p0
  generalize pb_2 y1 = z1 at s2 b1 p1
  generalize pb_2 y2 = z2 at s2 b2 p2
  generalize pb_2 y3 = z3 at s2 b3 p3
  have s3 : cx_U (cx_3 (cx_2 (cx_1 x))) = pb_3 z0 + 256 * pb_3 z1 + 65536 * pb_3 z2 + 16777216 * pb_3 z3 := by
    unfold cx_3
    rw [cx_U_and, cx_U_add, cx_U_shr, s2, show cx_U 252645135 = 15 + 256 * 15 + 65536 * 15 + 16777216 * 15 from by decide, show ((4 : Int32).toUInt32 &&& Int32.toUInt32 31).toNat % 32 = 4 from by decide]
    have e : (z0 + 256 * z1 + 65536 * z2 + 16777216 * z3 + (z0 + 256 * z1 + 65536 * z2 + 16777216 * z3) / 2 ^ 4) % 4294967296 = (z0 + z0 / 16 + 16 * (z1 % 16)) + 256 * (z1 + z1 / 16 + 16 * (z2 % 16)) + 65536 * (z2 + z2 / 16 + 16 * (z3 % 16)) + 16777216 * (z3 + z3 / 16 + 16 * 0) := by omega
    rw [e, pb_and4 (by omega) (by omega) (by omega) (by omega) (by decide), pb_f3 z0 (by omega) _ (by omega), pb_f3 z1 (by omega) _ (by omega), pb_f3 z2 (by omega) _ (by omega), pb_f3 z3 (by omega) _ (by omega)]
    rfl
  rw [p0.1, p1.1, p2.1, p3.1] at s3
  unfold cx_bc cx_5 cx_4
  rw [cx_U_and, cx_U_add, cx_U_shr, cx_U_add, cx_U_shr, s3, show cx_U 63 = 2 ^ 6 - 1 from by decide, Nat.and_two_pow_sub_one_eq_mod, show ((8 : Int32).toUInt32 &&& Int32.toUInt32 31).toNat % 32 = 8 from by decide, show ((16 : Int32).toUInt32 &&& Int32.toUInt32 31).toNat % 32 = 16 from by decide]
  have q0 := p0.2
  have q1 := p1.2
  have q2 := p2.2
  have q3 := p3.2
  generalize pc_n 8 r0 = c0 at q0 ⊢
  generalize pc_n 8 r1 = c1 at q1 ⊢
  generalize pc_n 8 r2 = c2 at q2 ⊢
  generalize pc_n 8 r3 = c3 at q3 ⊢
  rw [show (c0 + 256 * c1 + 65536 * c2 + 16777216 * c3 + (c0 + 256 * c1 + 65536 * c2 + 16777216 * c3) / 2 ^ 8) % 4294967296 = (c0 + c1) + 256 * (c1 + c2) + 65536 * (c2 + c3) + 16777216 * c3 by omega]
  clear s1 s2 s3 b0 b1 b2 b3 p0 p1 p2 p3 hp hu
  rw [show ((c0 + c1) + 256 * (c1 + c2) + 65536 * (c2 + c3) + 16777216 * c3) / 2 ^ 16 = (c2 + c3) + 256 * c3 by omega]
  omega
