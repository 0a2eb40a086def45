theorem nI_U {K : Int32} {m : Nat} (h : cx_U K = m) : K = nI m := by
  apply Int32.toBitVec_inj.mp
  apply BitVec.eq_of_toNat_eq
  have h1 : K.toBitVec.toNat = m := h
  have h2 : m < 2 ^ 32 := by rw [← h1]; exact K.toBitVec.isLt
  rw [h1]
  exact (pk_tn h2).symm
theorem cx_U_or (a b : Int32) : cx_U (a ||| b) = cx_U a ||| cx_U b := BitVec.toNat_or a.toBitVec b.toBitVec
theorem cx_U_xor (a b : Int32) : cx_U (a ^^^ b) = cx_U a ^^^ cx_U b := BitVec.toNat_xor a.toBitVec b.toBitVec
theorem cx_op_U {m : Nat} (hm : m < 2 ^ 20) : cx_U (cx_op (nI m)) = ((m <<< 10) ||| (m >>> 10)) &&& (2 ^ 20 - 1) := by
  unfold cx_op
  rw [cx_U_and, cx_U_or, pk_shlN ((10 : Int32) &&& 31) 10 (by decide) (by omega), pk_shrN (by omega) ((10 : Int32) &&& 31) 10 (by decide)]
  rw [show cx_U (nI (m * 2 ^ 10)) = m * 2 ^ 10 from pk_tn (by omega), show cx_U (nI (m / 2 ^ 10)) = m / 2 ^ 10 from pk_tn (by omega), show cx_U (1048575 : Int32) = 2 ^ 20 - 1 from by decide, Nat.shiftLeft_eq, Nat.shiftRight_eq_div_pow]
theorem cl_e_lt {j : Nat} (hj : j ≤ 20) : cl_e j < 20 := by unfold cl_e; split <;> omega
theorem op_bit {m j : Nat} (hm : m < 2 ^ 20) (hj : j ≤ 20) (h10 : j ≠ 10) : (cx_U (cx_op (nI m))).testBit (cl_e j) = m.testBit (cl_e (20 - j)) := by
  have hl := cl_e_lt hj
  rw [cx_op_U hm, Nat.testBit_and, Nat.testBit_or, Nat.testBit_shiftLeft, Nat.testBit_shiftRight, Nat.testBit_two_pow_sub_one]
  have hbig : ∀ k, 20 ≤ k → m.testBit k = false := fun k hk => Nat.testBit_lt_two_pow (Nat.lt_of_lt_of_le hm (Nat.pow_le_pow_right (by decide) hk))
  by_cases h : 10 < j
  · have e1 : cl_e j = j - 11 := if_pos h
    have e2 : cl_e (20 - j) = j - 1 := by unfold cl_e; rw [if_neg (by omega)]; omega
    rw [e1, e2, show 10 + (j - 11) = j - 1 by omega]
    simp [show ¬ (10 ≤ j - 11) by omega, show j - 11 < 20 by omega]
  · have e1 : cl_e j = 19 - j := if_neg h
    have e2 : cl_e (20 - j) = 9 - j := by unfold cl_e; rw [if_pos (by omega)]; omega
    rw [e1, e2, hbig (10 + (19 - j)) (by omega), show 19 - j - 10 = 9 - j by omega]
    simp [show 10 ≤ 19 - j by omega, show 19 - j < 20 by omega]
/-- what is known: as bits, and as the reference's row -/
def kn_R (K : Int32) (kn : Nat → Int32) : Prop := cx_U K < 2 ^ 20 ∧ kn 10 = 0 ∧ ∀ j, j ≤ 20 → j ≠ 10 → ((cx_U K).testBit (cl_e j) = false ↔ kn j = 0)
theorem bit_U {j : Nat} (hj : j ≤ 20) (h10 : j ≠ 10) : cx_U (cl_bit (nI j - 10)) = 2 ^ cl_e j := cl_bit_e j (by omega) h10
theorem cl_e_inj {i j : Nat} (hi : i ≤ 20) (hj : j ≤ 20) (hi10 : i ≠ 10) (hj10 : j ≠ 10) (h : cl_e i = cl_e j) : i = j := by
  unfold cl_e at h
  split at h <;> split at h <;> omega
/-- the literals of a clause that are not false -/
def op_L (kn : Nat → Int32) (ls : List Int32) : List Int32 := ls.filter (fun y => decide (kn ((10 : Int32) - y).toNatClampNeg = 0))
def li_G (ls : List Int32) : Prop := ∀ y, y ∈ ls → ∃ j : Nat, j ≤ 20 ∧ y = nI j - 10 ∧ j ≠ 10
theorem op_ix {j : Nat} (hj : j ≤ 20) : ((10 : Int32) - (nI j - 10)).toNatClampNeg = 20 - j := by
  rw [mo_lm j (by omega), nI_clamp (by omega)]
theorem ad_ix {j : Nat} (hj : j ≤ 20) : ((10 : Int32) + (nI j - 10)).toNatClampNeg = j := by
  rw [mo_lp j (by omega), nI_clamp (by omega)]
theorem m1_bit : ∀ e, e < 20 → (cx_U (-1 : Int32)).testBit e = true := by decide
theorem un_mask {K : Int32} {kn : Nat → Int32} (R : kn_R K kn) : ∀ ls : List Int32, li_G ls → cx_un (cl_mask ls) K = cl_mask (op_L kn ls) := by
  obtain ⟨r1, r2, r3⟩ := R
  intro ls
  induction ls with
  | nil =>
    intro _
    unfold cx_un
    apply Int32.toBitVec_inj.mp
    show ((0 : Int32) &&& _).toBitVec = (0 : Int32).toBitVec
    simp
  | cons y l ih =>
    intro h
    have ih := ih (fun z hz => h z (List.mem_cons_of_mem _ hz))
    obtain ⟨j, hj, rfl, h10⟩ := h y (List.mem_cons_self)
    have dist : ∀ a b x : Int32, (a ||| b) &&& x = (a &&& x) ||| (b &&& x) := by
      intro a b x
      apply Int32.toBitVec_inj.mp
      simp only [Int32.toBitVec_and, Int32.toBitVec_or]
      ext i hi
      simp only [BitVec.getElem_and, BitVec.getElem_or]
      cases a.toBitVec[i] <;> cases b.toBitVec[i] <;> cases x.toBitVec[i] <;> rfl
    have one : (cl_bit (nI j - 10) &&& (cx_op K ^^^ (-1 : Int32))) = if kn (20 - j) = 0 then cl_bit (nI j - 10) else 0 := by
      have hK : K = nI (cx_U K) := nI_U rfl
      have hb : (cx_U (cx_op K ^^^ (-1 : Int32))).testBit (cl_e j) = decide (kn (20 - j) = 0) := by
        rw [cx_U_xor, Nat.testBit_xor, m1_bit _ (cl_e_lt hj), hK, op_bit r1 hj h10]
        have := r3 (20 - j) (by omega) (by omega)
        by_cases hk : kn (20 - j) = 0
        · rw [this.mpr hk]; simp [hk]
        · have : (cx_U K).testBit (cl_e (20 - j)) = true := by
            cases hz : (cx_U K).testBit (cl_e (20 - j)) with
            | true => rfl
            | false => exact absurd (this.mp hz) hk
          rw [this]; simp [hk]
      have hU : cx_U (cl_bit (nI j - 10) &&& (cx_op K ^^^ (-1 : Int32))) = if kn (20 - j) = 0 then 2 ^ cl_e j else 0 := by
        rw [cx_U_and, bit_U hj h10]
        apply Nat.eq_of_testBit_eq
        intro e
        rw [Nat.testBit_and, Nat.testBit_two_pow]
        by_cases he : cl_e j = e
        · subst he
          rw [hb]
          by_cases hk : kn (20 - j) = 0
          · rw [if_pos hk, Nat.testBit_two_pow]; simp [hk]
          · rw [if_neg hk, Nat.zero_testBit]; simp [hk]
        · by_cases hk : kn (20 - j) = 0
          · rw [if_pos hk, Nat.testBit_two_pow]; simp [he]
          · rw [if_neg hk, Nat.zero_testBit]; simp [he]
      rw [nI_U hU]
      split
      · rw [← nI_U (bit_U hj h10)]
      · rfl
    unfold cx_un at ih ⊢
    show ((cl_mask l ||| cl_bit (nI j - 10)) &&& (cx_op K ^^^ (-1 : Int32))) = _
    rw [dist, ih, one]
    unfold op_L
    by_cases hk : kn (20 - j) = 0
    · rw [if_pos hk, List.filter_cons_of_pos (by rw [op_ix hj]; simp [hk])]
      rfl
    · rw [if_neg hk, List.filter_cons_of_neg (by rw [op_ix hj]; simp [hk])]
      have z0 : ∀ a : Int32, a ||| 0 = a := by
        intro a
        apply Int32.toBitVec_inj.mp
        simp
      exact z0 _
theorem mask_bit {ls : List Int32} (h : li_G ls) {e : Nat} : (cx_U (cl_mask ls)).testBit e = true ↔ ∃ j : Nat, j ≤ 20 ∧ j ≠ 10 ∧ (nI j - 10) ∈ ls ∧ cl_e j = e := by
  induction ls with
  | nil =>
    show (cx_U (0 : Int32)).testBit e = true ↔ _
    rw [show cx_U (0 : Int32) = 0 from rfl, Nat.zero_testBit]
    exact ⟨fun z => (by cases z), fun ⟨_, _, _, z, _⟩ => (by cases z)⟩
  | cons y l ih =>
    have ih := ih (fun z hz => h z (List.mem_cons_of_mem _ hz))
    obtain ⟨j, hj, rfl, h10⟩ := h y (List.mem_cons_self)
    show (cx_U (cl_mask l ||| cl_bit (nI j - 10))).testBit e = true ↔ _
    rw [cx_U_or, Nat.testBit_or, bit_U hj h10, Nat.testBit_two_pow, Bool.or_eq_true, ih, decide_eq_true_eq]
    constructor
    · rintro (⟨i, a1, a2, a3, a4⟩ | z)
      · exact ⟨i, a1, a2, List.mem_cons_of_mem _ a3, a4⟩
      · exact ⟨j, hj, h10, List.mem_cons_self, z⟩
    · rintro ⟨i, a1, a2, a3, a4⟩
      rcases List.mem_cons.mp a3 with z | z
      · right
        have inj : ∀ i, i < 21 → ∀ j, j < 21 → nI i - 10 = nI j - 10 → i = j := by decide
        have := inj i (by omega) j (by omega) z
        rw [← this]; exact a4
      · exact Or.inl ⟨i, a1, a2, z, a4⟩
theorem mask_lt {ls : List Int32} (h : li_G ls) : cx_U (cl_mask ls) < 2 ^ 20 := by
  apply Nat.lt_pow_two_of_testBit
  intro e he
  cases hz : (cx_U (cl_mask ls)).testBit e with
  | false => rfl
  | true =>
    obtain ⟨j, a1, a2, a3, a4⟩ := (mask_bit h).mp hz
    have := cl_e_lt a1
    omega
theorem pc_up : ∀ (k a e : Nat), e < k → a.testBit e = false → pc_n k (a ||| 2 ^ e) = pc_n k a + 1 := by
  intro k
  induction k with
  | zero => intro a e h; omega
  | succ k ih =>
    intro a e he hb
    show (a ||| 2 ^ e) % 2 + pc_n k ((a ||| 2 ^ e) / 2) = a % 2 + pc_n k (a / 2) + 1
    have hd : (a ||| 2 ^ e) / 2 = a / 2 ||| 2 ^ e / 2 := by
      apply Nat.eq_of_testBit_eq
      intro i
      rw [Nat.testBit_div_two, Nat.testBit_or, Nat.testBit_or, Nat.testBit_div_two, Nat.testBit_div_two]
    have hm : (a ||| 2 ^ e) % 2 = 1 ↔ (a % 2 = 1 ∨ e = 0) := by
      have h1 : (a ||| 2 ^ e).testBit 0 = (a.testBit 0 || (2 ^ e).testBit 0) := Nat.testBit_or _ _ _
      rw [Nat.testBit_zero, Nat.testBit_zero, Nat.testBit_two_pow] at h1
      have h2 : (decide ((a ||| 2 ^ e) % 2 = 1) = true) ↔ ((decide (a % 2 = 1) || decide (e = 0)) = true) := by rw [h1]
      simpa using h2
    cases e with
    | zero =>
      rw [Nat.testBit_zero] at hb
      have ha : ¬ a % 2 = 1 := of_decide_eq_false hb
      have h3 : (a ||| 2 ^ 0) % 2 = 1 := hm.mpr (Or.inr rfl)
      have h4 : a / 2 ||| 2 ^ 0 / 2 = a / 2 := by
        rw [show 2 ^ 0 / 2 = 0 from rfl, Nat.or_zero]
      rw [hd, h4, h3]
      omega
    | succ e =>
      have h3 : (a ||| 2 ^ (e + 1)) % 2 = a % 2 := by
        rcases Nat.mod_two_eq_zero_or_one (a ||| 2 ^ (e + 1)) with z | z
        · rcases Nat.mod_two_eq_zero_or_one a with z2 | z2
          · omega
          · have := hm.mpr (Or.inl z2); omega
        · rcases hm.mp z with z2 | z2
          · omega
          · omega
      have h4 : 2 ^ (e + 1) / 2 = 2 ^ e := by rw [Nat.pow_succ]; omega
      rw [hd, h4, h3, ih (a / 2) e (by omega) (by rw [Nat.testBit_div_two]; exact hb)]
      omega
theorem mask_pc : ∀ ls : List Int32, li_G ls → ls.Nodup → pc_n 32 (cx_U (cl_mask ls)) = ls.length := by
  intro ls
  induction ls with
  | nil => intro _ _; decide
  | cons y l ih =>
    intro h hn
    have hg : li_G l := fun z hz => h z (List.mem_cons_of_mem _ hz)
    have ih := ih hg (List.nodup_cons.mp hn).2
    obtain ⟨j, hj, rfl, h10⟩ := h y (List.mem_cons_self)
    show pc_n 32 (cx_U (cl_mask l ||| cl_bit (nI j - 10))) = _
    rw [cx_U_or, bit_U hj h10, pc_up 32 _ _ (by have := cl_e_lt hj; omega), ih]
    · rfl
    · cases hz : (cx_U (cl_mask l)).testBit (cl_e j) with
      | false => rfl
      | true =>
        obtain ⟨i, a1, a2, a3, a4⟩ := (mask_bit hg).mp hz
        have := cl_e_inj a1 hj a2 h10 a4
        subst this
        exact absurd a3 (List.nodup_cons.mp hn).1
theorem pc_le : ∀ (k n : Nat), pc_n k n ≤ k := by
  intro k
  induction k with
  | zero => intro n; exact Nat.le_refl _
  | succ k ih =>
    intro n
    show n % 2 + pc_n k (n / 2) ≤ _
    have := ih (n / 2)
    omega
theorem mask_bc {ls : List Int32} (h : li_G ls) (hn : ls.Nodup) : cx_bc (cl_mask ls) = nI ls.length := by
  apply nI_U
  rw [cx_bc_eq, mask_pc ls h hn]
/-- the reference's walk over a clause -/
def mo_tL (kn : Nat → Int32) : List Int32 → Nat → Int32 → Nat × Int32
  | [], o, x => (o, x)
  | y :: l, o, x => if kn ((10 : Int32) - y).toNatClampNeg = 0 then mo_tL kn l (o + 1) y else mo_tL kn l o x
theorem mo_to_L {lt kn : Nat → Int32} : ∀ (l : List Int32) (p o : Nat) (x : Int32), (∀ i, i < l.length → lt (p + i) = l.getD i 0) → mo_to lt kn l.length p o x = mo_tL kn l o x := by
  intro l
  induction l with
  | nil => intro p o x _; rfl
  | cons y l ih =>
    intro p o x h
    have h0 : lt p = y := h 0 (by simp)
    have h1 : ∀ i, i < l.length → lt (p + 1 + i) = l.getD i 0 := fun i hi => by
      have := h (i + 1) (by simp; omega)
      rw [show p + 1 + i = p + (i + 1) by omega]; exact this
    show mo_to lt kn (l.length + 1) p o x = _
    rw [mo_to.eq_2, mo_tL.eq_2, h0, ih _ _ _ h1, ih _ _ _ h1]
theorem mo_tL_e {kn : Nat → Int32} : ∀ (l : List Int32) (o : Nat) (x : Int32), mo_tL kn l o x = (o + (op_L kn l).length, ((op_L kn l).getLast?).getD x) := by
  intro l
  induction l with
  | nil => intro o x; rfl
  | cons y l ih =>
    intro o x
    rw [mo_tL.eq_2]
    unfold op_L at ih ⊢
    by_cases h : kn ((10 : Int32) - y).toNatClampNeg = 0
    · rw [if_pos h, ih, List.filter_cons_of_pos (by simp [h]), List.length_cons, List.getLast?_cons]
      exact Prod.ext (by show o + 1 + _ = o + (_ + 1); omega) rfl
    · rw [if_neg h, ih, List.filter_cons_of_neg (by simp [h])]
theorem tl_L {lt kn : Nat → Int32} {p : Nat} {ls : List Int32} (h : cl_ar (fun i => lt (p + i)) ls) : mo_tl lt kn ls.length p = mo_tz kn ((op_L kn ls).length, ((op_L kn ls.reverse).getLast?).getD 0) := by
  unfold mo_tl
  have h1 : mo_to lt kn ls.length p 0 0 = mo_tL kn ls.reverse 0 0 := by
    have := mo_to_L (kn := kn) ls.reverse p 0 0 (fun i hi => h.2 i (by simpa using hi))
    rw [List.length_reverse] at this
    exact this
  rw [h1, mo_tL_e, Nat.zero_add]
  congr 2
  unfold op_L
  rw [List.filter_reverse, List.length_reverse]
