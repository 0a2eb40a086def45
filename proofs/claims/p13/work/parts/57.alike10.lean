theorem cl_m1 (y : Int32) : cl_mask [y] = cl_bit y := by
  show (0 : Int32) ||| cl_bit y = cl_bit y
  apply Int32.toBitVec_inj.mp
  simp
theorem st_same {K : Int32} {kn lt : Nat → Int32} {p : Nat} {ls : List Int32} (R : kn_R K kn) (hg : li_G ls) (hn : ls.Nodup) (hc : cl_ar (fun i => lt (p + i)) ls) : (mo_tl lt kn ls.length p = 0 ∧ cx_fo (cl_mask ls) K = -1) ∨ (mo_tl lt kn ls.length p = 99 ∧ cx_fo (cl_mask ls) K = -2) ∨ ∃ q : Nat, q ≤ 20 ∧ q ≠ 10 ∧ (nI q - 10) ∈ ls ∧ mo_tl lt kn ls.length p = nI (q + 1) ∧ cx_fo (cl_mask ls) K = (K ||| cl_bit (nI q - 10)) ∧ kn q = 0 ∧ kn (20 - q) = 0 := by
  rw [tl_L hc]
  unfold cx_fo
  rw [un_mask R ls hg]
  have hsub : ∀ y, y ∈ op_L kn ls → y ∈ ls := fun y hy => (List.mem_filter.mp hy).1
  have hO : li_G (op_L kn ls) := fun y hy => hg y (hsub y hy)
  have hOn : (op_L kn ls).Nodup := List.Pairwise.filter _ hn
  have hlen : (op_L kn ls).length ≤ 6 := Nat.le_trans (List.length_filter_le _ _) hc.1
  have hrev : op_L kn ls.reverse = (op_L kn ls).reverse := List.filter_reverse
  rw [hrev]
  have hb1 : cx_bc (cl_mask (op_L kn ls)) = 1 ↔ (op_L kn ls).length = 1 := by
    rw [mask_bc hO hOn]
    exact nI_eq (b := 1) (by omega) (by omega)
  have hz : cl_mask (op_L kn ls) = 0 → (op_L kn ls).length = 0 := by
    intro e
    rw [← mask_pc _ hO hOn, e]
    decide
  have hmem : ∀ y, y ∈ op_L kn ls → kn ((10 : Int32) - y).toNatClampNeg = 0 := fun y hy => of_decide_eq_true (List.mem_filter.mp hy).2
  have hK : ∀ q : Nat, q ≤ 20 → q ≠ 10 → (((cl_bit (nI q - 10) &&& K) = 0) ↔ kn q = 0) := by
    intro q hq h10
    rw [cx_U_0, cx_U_and, bit_U hq h10, Nat.and_comm, nat_and_pow]
    exact R.2.2 q hq h10
  generalize op_L kn ls = O at hsub hO hOn hlen hb1 hz hmem ⊢
  generalize hBC : cx_bc (cl_mask O) = BC at hb1 ⊢
  unfold mo_tz
  rcases O with _ | ⟨y, O1⟩
  · left
    exact ⟨if_pos rfl, if_pos rfl⟩
  rcases O1 with _ | ⟨z, O2⟩
  · right
    obtain ⟨q, hq, rfl, h10⟩ := hO y (List.mem_cons_self)
    have hk2 := hmem _ (List.mem_cons_self)
    rw [op_ix hq] at hk2
    have h0 : ¬ cl_mask [nI q - 10] = 0 := fun e => absurd (hz e) (by simp)
    have h1 : BC = 1 := hb1.mpr rfl
    have hl : ((([nI q - 10] : List Int32).reverse.getLast?).getD 0) = nI q - 10 := rfl
    rw [hl, if_neg h0, cl_m1]
    show ((if (1 : Nat) = 0 then (0 : Int32) else if 1 < 1 ∨ ¬ kn ((10 : Int32) + (nI q - 10)).toNatClampNeg = 0 then 99 else nI q - 10 + 11) = 99 ∧ _) ∨ ∃ q' : Nat, _ ∧ _ ∧ _ ∧ (if (1 : Nat) = 0 then (0 : Int32) else if 1 < 1 ∨ ¬ kn ((10 : Int32) + (nI q - 10)).toNatClampNeg = 0 then 99 else nI q - 10 + 11) = _ ∧ _
    rw [if_neg (by decide), ad_ix hq]
    by_cases hk : kn q = 0
    · right
      refine ⟨q, hq, h10, hsub _ (List.mem_cons_self), ?_, ?_, hk, hk2⟩
      · rw [if_neg (by
          rintro (z | z)
          · exact absurd z (by decide)
          · exact z hk)]
        have e : ∀ q, q < 21 → (nI q - 10) + 11 = nI (q + 1) := by decide
        exact e q (by omega)
      · rw [if_pos ⟨h1, (hK q hq h10).mpr hk⟩]
    · left
      exact ⟨if_pos (Or.inr hk), if_neg (fun z => hk ((hK q hq h10).mp z.2))⟩
  · right; left
    have h0 : ¬ cl_mask (y :: z :: O2) = 0 := fun e => absurd (hz e) (by simp)
    have h1 : ¬ BC = 1 := fun e => absurd (hb1.mp e) (by simp)
    refine ⟨?_, ?_⟩
    · rw [if_neg (by simp), if_pos (Or.inl (by simp))]
    · rw [if_neg h0, if_neg (fun z => h1 z.1)]
theorem kn_R_s {K : Int32} {kn : Nat → Int32} {q : Nat} (R : kn_R K kn) (hq : q ≤ 20) (h10 : q ≠ 10) : kn_R (K ||| cl_bit (nI q - 10)) (upd kn q 1) := by
  obtain ⟨r1, r2, r3⟩ := R
  have hU : cx_U (K ||| cl_bit (nI q - 10)) = cx_U K ||| 2 ^ cl_e q := by rw [cx_U_or, bit_U hq h10]
  refine ⟨?_, ?_, fun j hj hj10 => ?_⟩
  · rw [hU]
    exact Nat.or_lt_two_pow r1 (Nat.pow_lt_pow_right (by decide) (cl_e_lt hq))
  · rw [pk_un (fun z => h10 z.symm)]; exact r2
  · rw [hU, Nat.testBit_or, Nat.testBit_two_pow]
    by_cases hjq : j = q
    · subst hjq
      rw [pk_us]
      simp
    · rw [pk_un hjq, ← r3 j hj hj10]
      have : ¬ cl_e q = cl_e j := fun z => hjq (cl_e_inj hq hj h10 hj10 z).symm
      simp [this]
theorem kn_R_n {K : Int32} {kn : Nat → Int32} (R : kn_R K kn) : ¬ K = -1 ∧ ¬ K = -2 := by
  refine ⟨fun z => ?_, fun z => ?_⟩
  · have := R.1
    rw [z] at this
    exact absurd this (by decide)
  · have := R.1
    rw [z] at this
    exact absurd this (by decide)
/-- how many variables are not known -/
def mo_uc (kn : Nat → Int32) : Nat → Nat
  | 0 => 0
  | x + 1 => mo_uc kn x + (if kn (11 + x) = 0 ∧ kn (9 - x) = 0 then 1 else 0)
theorem mo_uc_b (kn : Nat → Int32) : ∀ v, mo_uc kn v ≤ v := by
  intro v
  induction v with
  | zero => exact Nat.le_refl _
  | succ v ih => rw [mo_uc.eq_2]; split <;> omega
theorem mo_uc_e {kn kn' : Nat → Int32} (h : ∀ j, j ≤ 20 → (kn' j = 0 ↔ kn j = 0)) : ∀ v, v ≤ 10 → mo_uc kn' v = mo_uc kn v := by
  intro v
  induction v with
  | zero => intro _; rfl
  | succ v ih =>
    intro hv
    rw [mo_uc.eq_2, mo_uc.eq_2, ih (by omega)]
    have e : (kn' (11 + v) = 0 ∧ kn' (9 - v) = 0) ↔ (kn (11 + v) = 0 ∧ kn (9 - v) = 0) := by rw [h _ (by omega), h _ (by omega)]
    by_cases hc : kn (11 + v) = 0 ∧ kn (9 - v) = 0
    · rw [if_pos hc, if_pos (e.mpr hc)]
    · rw [if_neg hc, if_neg (fun z => hc (e.mp z))]
theorem mo_uc_s {kn : Nat → Int32} {q : Nat} (h1 : kn q = 0) (h2 : kn (20 - q) = 0) (hq : q ≤ 20) (h10 : q ≠ 10) : ∀ v, v ≤ 10 → ((q ≤ 10 + v ∧ 10 ≤ q + v → mo_uc (upd kn q 1) v + 1 = mo_uc kn v) ∧ (¬ (q ≤ 10 + v ∧ 10 ≤ q + v) → mo_uc (upd kn q 1) v = mo_uc kn v)) := by
  intro v
  induction v with
  | zero => intro _; exact ⟨fun z => absurd z (by omega), fun _ => rfl⟩
  | succ v ih =>
    intro hv
    obtain ⟨i1, i2⟩ := ih (by omega)
    rw [mo_uc.eq_2, mo_uc.eq_2]
    by_cases hx : q = 11 + v ∨ q = 9 - v
    · have hb : kn (11 + v) = 0 ∧ kn (9 - v) = 0 := by
        rcases hx with z | z
        · rw [z] at h1 h2; rw [show 20 - (11 + v) = 9 - v by omega] at h2; exact ⟨h1, h2⟩
        · rw [z] at h1 h2; rw [show 20 - (9 - v) = 11 + v by omega] at h2; exact ⟨h2, h1⟩
      have hn : ¬ (upd kn q 1 (11 + v) = 0 ∧ upd kn q 1 (9 - v) = 0) := by
        rintro ⟨z1, z2⟩
        rcases hx with z | z
        · rw [← z, pk_us] at z1; exact absurd z1 (by decide)
        · rw [← z, pk_us] at z2; exact absurd z2 (by decide)
      rw [if_pos hb, if_neg hn, i2 (by omega)]
      exact ⟨fun _ => by omega, fun z => absurd z (by omega)⟩
    · have e1 : upd kn q 1 (11 + v) = kn (11 + v) := pk_un (fun z => hx (Or.inl z.symm))
      have e2 : upd kn q 1 (9 - v) = kn (9 - v) := pk_un (fun z => hx (Or.inr z.symm))
      rw [e1, e2]
      refine ⟨fun z => ?_, fun z => ?_⟩
      · have := i1 (by omega)
        omega
      · rw [i2 (by omega)]
/-- a clause as it stands in the reference's rows -/
def sl_G (v : Nat) (css : fo_C) (k : Nat) (ma lt : Nat → Int32) : Prop := ∀ (i : Nat) (x : Int32 × List Int32), css[i]? = some x → ma (k + i) = nI x.2.length ∧ cl_ar (fun j => lt (6 * (k + i) + j)) x.2 ∧ (∀ y, y ∈ x.2 → fo_l v y) ∧ x.2.Nodup
theorem ps_same {ma lt : Nat → Int32} {v : Nat} (hv : v ≤ 10) : ∀ (css : fo_C) (k : Nat) (K : Int32) (kn : Nat → Int32) (b : Bool), sl_G v css k ma lt → kn_R K kn → (mo_pf ma lt css.length k kn b = none ∧ fo_pi css K = none) ∨ ∃ (kn' : Nat → Int32) (K' : Int32) (b' : Bool), mo_pf ma lt css.length k kn b = some (kn', b') ∧ fo_pi css K = some K' ∧ kn_R K' kn' ∧ ((b' = b ∧ K' = K ∧ kn' = kn) ∨ (b' = true ∧ mo_uc kn' v < mo_uc kn v)) := by
  intro css
  induction css with
  | nil =>
    intro k K kn b _ R
    exact Or.inr ⟨kn, K, b, rfl, rfl, R, Or.inl ⟨rfl, rfl, rfl⟩⟩
  | cons x css ih =>
    intro k K kn b hs R
    obtain ⟨m1, m2, m3, m4⟩ := hs 0 x rfl
    rw [Nat.add_zero] at m1 m2
    have hs2 : sl_G v css (k + 1) ma lt := fun i y hy => by
      have := hs (i + 1) y (by simpa using hy)
      rw [show k + 1 + i = k + (i + 1) by omega]; exact this
    have hg : li_G x.2 := fun y hy => by
      obtain ⟨j, b1, b2, b3, -⟩ := fo_l_j hv (m3 y hy)
      exact ⟨j, b1, b2, b3⟩
    show (mo_pf ma lt (css.length + 1) k kn b = none ∧ _) ∨ ∃ kn' K' b', mo_pf ma lt (css.length + 1) k kn b = _ ∧ _
    rw [mo_pf.eq_2, fo_pi.eq_2, m1, nI_clamp (by have := m2.1; omega)]
    rcases st_same R hg m4 m2 with ⟨t1, t2⟩ | ⟨t1, t2⟩ | ⟨q, hq, h10, hmem, t1, t2, k1, k2⟩
    · rw [t1, t2, if_pos rfl, if_pos rfl]
      exact Or.inl ⟨rfl, rfl⟩
    · rw [t1, t2, if_neg (by decide), if_pos rfl, if_neg (by decide), if_pos rfl]
      exact ih (k + 1) K kn b hs2 R
    · have R2 := kn_R_s R hq h10
      have n1 := kn_R_n R2
      have e1 : ¬ nI (q + 1) = 0 := nI_ne0 (by omega) (by omega)
      have e9 : ¬ nI (q + 1) = 99 := fun z => absurd ((nI_eq (b := 99) (by omega) (by omega)).mp z) (by omega)
      rw [t1, t2, if_neg e1, if_neg e9, nI_pred, nI_clamp (by omega), if_neg n1.1, if_neg n1.2]
      obtain ⟨j, -, b2, -, b4, b5⟩ := fo_l_j hv (m3 _ hmem)
      have inj : ∀ i, i < 21 → ∀ j, j < 21 → nI i - 10 = nI j - 10 → i = j := by decide
      have hjq : q = j := inj q (by omega) j (by omega) b2
      subst hjq
      have hu := (mo_uc_s k1 k2 hq h10 v hv).1 ⟨b4, b5⟩
      rcases ih (k + 1) _ _ true hs2 R2 with ⟨i1, i2⟩ | ⟨kn', K', b', i1, i2, i3, i4⟩
      · exact Or.inl ⟨i1, i2⟩
      · refine Or.inr ⟨kn', K', b', i1, i2, i3, Or.inr ?_⟩
        rcases i4 with ⟨z1, -, z3⟩ | ⟨z1, z2⟩
        · refine ⟨z1, ?_⟩
          rw [z3]; omega
        · exact ⟨z1, by omega⟩
theorem rn_same {cs : fo_C} {ma lt : Nat → Int32} {v : Nat} (hv : v ≤ 10) (hs : sl_G v cs 0 ma lt) : ∀ (n : Nat) (K : Int32) (kn : Nat → Int32) (d D : Nat), mo_uc kn v = n → n < d → n < D → kn_R K kn → (mo_pw ma lt cs.length D kn = none ∧ fo_po cs d K = none) ∨ ∃ (kn' : Nat → Int32) (K' : Int32), mo_pw ma lt cs.length D kn = some kn' ∧ fo_po cs d K = some K' ∧ kn_R K' kn' := by
  intro n
  induction n using Nat.strongRecOn with
  | ind n ih =>
    intro K kn d D hn hd hD R
    obtain ⟨d', rfl⟩ : ∃ d', d = d' + 1 := ⟨d - 1, by omega⟩
    obtain ⟨D', rfl⟩ : ∃ D', D = D' + 1 := ⟨D - 1, by omega⟩
    rw [mo_pw.eq_2, fo_po.eq_2]
    rcases ps_same hv cs 0 K kn false hs R with ⟨i1, i2⟩ | ⟨kn', K', b', i1, i2, i3, i4⟩
    · rw [i1, i2]
      exact Or.inl ⟨rfl, rfl⟩
    rw [i1, i2]
    rcases i4 with ⟨rfl, rfl, rfl⟩ | ⟨rfl, hu⟩
    · refine Or.inr ⟨kn', K', rfl, ?_, R⟩
      show (if K' = K' then some K' else _) = _
      rw [if_pos rfl]
    · have hne : ¬ K' = K := by
        intro e
        subst e
        have : mo_uc kn' v = mo_uc kn v := mo_uc_e (fun j hj => by
          by_cases h10 : j = 10
          · subst h10
            exact ⟨fun _ => R.2.1, fun _ => i3.2.1⟩
          · rw [← i3.2.2 j hj h10, ← R.2.2 j hj h10]) v hv
        omega
      show (mo_pw ma lt cs.length D' kn' = none ∧ (if K' = K then some K' else fo_po cs d' K') = none) ∨ ∃ kn9 K9, mo_pw ma lt cs.length D' kn' = some kn9 ∧ (if K' = K then some K' else fo_po cs d' K') = some K9 ∧ _
      rw [if_neg hne]
      exact ih (mo_uc kn' v) (by omega) K' kn' d' D' rfl (by omega) (by omega) i3
/-- the literals that are known -/
def kn_L (kn : Nat → Int32) : Nat → Nat → List Int32
  | 0, _ => []
  | d + 1, i => if kn i = 0 then kn_L kn d (i + 1) else (nI i - 10) :: kn_L kn d (i + 1)
theorem kn_L_n {kn : Nat → Int32} : ∀ (d i : Nat), (kn_L kn d i).length = mo_nz kn d i := by
  intro d
  induction d with
  | zero => intro i; rfl
  | succ d ih =>
    intro i
    rw [kn_L.eq_2, mo_nz.eq_2]
    split
    · rw [ih, Nat.zero_add]
    · rw [List.length_cons, ih]; omega
theorem kn_L_m {kn : Nat → Int32} : ∀ (d i : Nat) (y : Int32), y ∈ kn_L kn d i ↔ ∃ j, i ≤ j ∧ j < i + d ∧ ¬ kn j = 0 ∧ y = nI j - 10 := by
  intro d
  induction d with
  | zero => intro i y; exact ⟨fun z => (by cases z), fun ⟨j, a1, a2, _⟩ => by omega⟩
  | succ d ih =>
    intro i y
    rw [kn_L.eq_2]
    by_cases h : kn i = 0
    · rw [if_pos h, ih]
      constructor
      · rintro ⟨j, a1, a2, a3, a4⟩
        exact ⟨j, by omega, by omega, a3, a4⟩
      · rintro ⟨j, a1, a2, a3, a4⟩
        have : j ≠ i := by rintro rfl; exact a3 h
        exact ⟨j, by omega, by omega, a3, a4⟩
    · rw [if_neg h, List.mem_cons, ih]
      constructor
      · rintro (z | ⟨j, a1, a2, a3, a4⟩)
        · exact ⟨i, Nat.le_refl _, by omega, h, z⟩
        · exact ⟨j, by omega, by omega, a3, a4⟩
      · rintro ⟨j, a1, a2, a3, a4⟩
        by_cases hji : j = i
        · subst hji; exact Or.inl a4
        · exact Or.inr ⟨j, by omega, by omega, a3, a4⟩
theorem kn_L_d {kn : Nat → Int32} : ∀ (d i : Nat), i + d ≤ 21 → (kn_L kn d i).Nodup := by
  intro d
  induction d with
  | zero => intro i _; exact List.nodup_nil
  | succ d ih =>
    intro i hi
    rw [kn_L.eq_2]
    split
    · exact ih (i + 1) (by omega)
    · refine List.nodup_cons.mpr ⟨fun z => ?_, ih (i + 1) (by omega)⟩
      obtain ⟨j, a1, a2, a3, a4⟩ := (kn_L_m d (i + 1) _).mp z
      have inj : ∀ i, i < 21 → ∀ j, j < 21 → nI i - 10 = nI j - 10 → i = j := by decide
      have := inj i (by omega) j (by omega) a4
      omega
theorem kn_bc {K : Int32} {kn : Nat → Int32} (R : kn_R K kn) : cx_bc K = nI (mo_nz kn 21 0) := by
  have hg : li_G (kn_L kn 21 0) := fun y hy => by
    obtain ⟨j, a1, a2, a3, a4⟩ := (kn_L_m 21 0 y).mp hy
    refine ⟨j, by omega, a4, ?_⟩
    rintro rfl
    exact a3 R.2.1
  have e : K = cl_mask (kn_L kn 21 0) := by
    rw [nI_U (K := K) rfl, nI_U (K := cl_mask (kn_L kn 21 0)) rfl]
    congr 1
    apply Nat.eq_of_testBit_eq
    intro b
    by_cases hb : b < 20
    · obtain ⟨j, hj, hj10, rfl⟩ : ∃ j, j ≤ 20 ∧ j ≠ 10 ∧ cl_e j = b := by
        by_cases h : b < 10
        · refine ⟨b + 11, by omega, by omega, ?_⟩
          unfold cl_e; rw [if_pos (by omega)]; omega
        · refine ⟨19 - b, by omega, by omega, ?_⟩
          unfold cl_e; rw [if_neg (by omega)]; omega
      have h1 := R.2.2 j hj hj10
      have h2 := mask_bit hg (e := cl_e j)
      by_cases hk : kn j = 0
      · rw [h1.mpr hk]
        cases hz : (cx_U (cl_mask (kn_L kn 21 0))).testBit (cl_e j) with
        | false => rfl
        | true =>
          obtain ⟨i, a1, a2, a3, a4⟩ := h2.mp hz
          have hij := cl_e_inj a1 hj a2 hj10 a4
          subst hij
          obtain ⟨i2, b1, b2, b3, b4⟩ := (kn_L_m 21 0 _).mp a3
          have inj : ∀ i, i < 21 → ∀ j, j < 21 → nI i - 10 = nI j - 10 → i = j := by decide
          have := inj i (by omega) i2 (by omega) b4
          subst this
          exact absurd hk b3
      · have h3 : (cx_U K).testBit (cl_e j) = true := by
          cases hz : (cx_U K).testBit (cl_e j) with
          | true => rfl
          | false => exact absurd (h1.mp hz) hk
        rw [h3]
        exact (h2.mpr ⟨j, hj, hj10, (kn_L_m 21 0 _).mpr ⟨j, Nat.zero_le _, by omega, hk, rfl⟩, rfl⟩).symm
    · have hp : 2 ^ 20 ≤ 2 ^ b := Nat.pow_le_pow_right (by decide) (by omega)
      rw [Nat.testBit_lt_two_pow (Nat.lt_of_lt_of_le R.1 hp), Nat.testBit_lt_two_pow (Nat.lt_of_lt_of_le (mask_lt hg) hp)]
  rw [e, mask_bc hg (kn_L_d 21 0 (by omega)), kn_L_n]
theorem kn_R_0 {x y : Int32} (hx : mo_l x) (hy : mo_l y) : kn_R (cl_bit x ||| cl_bit y) (mo_k0 x y) := by
  obtain ⟨qx, hx1, rfl⟩ := hx
  obtain ⟨qy, hy1, rfl⟩ := hy
  have ez : ∀ q, q < 21 → (nI q - 10 = 0 ↔ q = 10) := by decide
  have z10 : cx_U (cl_bit (nI 10 - 10)) = 0 := by decide
  have hb : ∀ q, q ≤ 20 → cx_U (cl_bit (nI q - 10)) = if q = 10 then 0 else 2 ^ cl_e q := by
    intro q hq
    by_cases h : q = 10
    · subst h; rw [if_pos rfl]; exact z10
    · rw [if_neg h]; exact bit_U hq h
  have hlt : ∀ q, q ≤ 20 → cx_U (cl_bit (nI q - 10)) < 2 ^ 20 := by
    intro q hq
    rw [hb q hq]
    split
    · decide
    · exact Nat.pow_lt_pow_right (by decide) (cl_e_lt hq)
  have ht : ∀ q j, q ≤ 20 → j ≤ 20 → j ≠ 10 → ((cx_U (cl_bit (nI q - 10))).testBit (cl_e j) = true ↔ q = j) := by
    intro q j hq hj hj10
    rw [hb q hq]
    by_cases h : q = 10
    · rw [if_pos h, Nat.zero_testBit]
      exact ⟨fun z => (by cases z), fun z => absurd (z.symm.trans h) hj10⟩
    · rw [if_neg h, Nat.testBit_two_pow, decide_eq_true_eq]
      exact ⟨fun z => cl_e_inj hq hj h hj10 z, fun z => by rw [z]⟩
  refine ⟨?_, if_pos rfl, fun j hj hj10 => ?_⟩
  · rw [cx_U_or]
    exact Nat.or_lt_two_pow (hlt qx hx1) (hlt qy hy1)
  · unfold mo_k0
    rw [ad_ix hx1, ad_ix hy1, if_neg hj10, cx_U_or, Nat.testBit_or, Bool.or_eq_false_iff]
    have tx := ht qx j hx1 hj hj10
    have ty := ht qy j hy1 hj hj10
    by_cases h1 : qx = j
    · have h2 : ¬ nI qx - 10 = 0 := fun z => hj10 (h1.symm.trans ((ez qx (by omega)).mp z))
      rw [if_pos ⟨h2, h1⟩, tx.mpr h1]
      exact ⟨fun z => absurd z.1 (by decide), fun z => absurd z (by decide)⟩
    · rw [if_neg (fun z => h1 z.2)]
      have f1 : (cx_U (cl_bit (nI qx - 10))).testBit (cl_e j) = false := by
        cases hz : (cx_U (cl_bit (nI qx - 10))).testBit (cl_e j) with
        | false => rfl
        | true => exact absurd (tx.mp hz) h1
      rw [f1]
      by_cases h3 : qy = j
      · have h4 : ¬ nI qy - 10 = 0 := fun z => hj10 (h3.symm.trans ((ez qy (by omega)).mp z))
        rw [if_pos ⟨h4, h3⟩, ty.mpr h3]
        exact ⟨fun z => absurd z.2 (by decide), fun z => absurd z (by decide)⟩
      · rw [if_neg (fun z => h3 z.2)]
        have f2 : (cx_U (cl_bit (nI qy - 10))).testBit (cl_e j) = false := by
          cases hz : (cx_U (cl_bit (nI qy - 10))).testBit (cl_e j) with
          | false => rfl
          | true => exact absurd (ty.mp hz) h3
        rw [f2]
        exact ⟨fun _ => rfl, fun _ => ⟨rfl, rfl⟩⟩
/-- what is forced is forced in both -/
theorem forced_same {cs : fo_C} {ma lt : Nat → Int32} {v : Nat} {x y : Int32} (hv : v ≤ 10) (hs : sl_G v cs 0 ma lt) : co_fr cs v x y = mo_fx ma lt v cs.length x y := by
  unfold co_fr mo_fx
  by_cases h : co_lt v x = true ∧ co_lt v y = true ∧ ¬ (¬ x = 0 ∧ x = -y)
  rotate_left
  · rw [if_neg h, if_neg h]
  rw [if_pos h, if_pos h]
  have R := kn_R_0 (mo_l_in hv h.1) (mo_l_in hv h.2.1)
  have hu := mo_uc_b (mo_k0 x y) v
  rcases rn_same hv hs _ _ _ (v + 1) 22 rfl (by omega) (by omega) R with ⟨i1, i2⟩ | ⟨kn', K', i1, i2, i3⟩
  · rw [i1, i2]
    rfl
  · rw [i1, i2]
    show (if K' = -1 then -1 else cx_bc K') = nI (mo_nz kn' 21 0)
    rw [if_neg (kn_R_n i3).1, kn_bc i3]
theorem cl_in_n {f : Nat → Int32} {L : Nat} {sk : Int32} {v : Nat} (hv : v ≤ 10) : ∀ (k : Nat) (q : Nat × Nat) (ls ls' : List Int32) (q' : Nat × Nat), (∀ y, y ∈ ls → fo_l v y) → ls.Nodup → cl_in f L sk (nI v) k q ls = (some ls', q') → ls'.Nodup := by
  intro k
  induction k with
  | zero => intro q ls ls' q' _ _ h; cases h
  | succ k ih =>
    intro q ls ls' q' hl hn h
    rw [cl_in.eq_2] at h
    cases hnum : tx_num f q.1 q.2 with
    | none => rw [hnum] at h; cases h
    | some x =>
      rw [hnum] at h
      have h : (if tx_in x (-(nI v)) (nI v) = true then (if x = 0 then (some ls, tx_adv f L sk q.2) else if ¬ (cl_mask ls &&& cl_bit x) = 0 then cl_in f L sk (nI v) k (tx_adv f L sk q.2) ls else if ls.length < 6 then cl_in f L sk (nI v) k (tx_adv f L sk q.2) (x :: ls) else (none, q)) else (none, q)) = (some ls', q') := h
      by_cases h1 : tx_in x (-(nI v)) (nI v) = true
      rotate_left
      · rw [if_neg h1] at h; cases h
      rw [if_pos h1] at h
      by_cases h2 : x = 0
      · rw [if_pos h2] at h
        cases h
        exact hn
      rw [if_neg h2] at h
      by_cases h3 : ¬ (cl_mask ls &&& cl_bit x) = 0
      · rw [if_pos h3] at h
        exact ih _ _ _ _ hl hn h
      rw [if_neg h3] at h
      have hml : ∀ y, y ∈ ls → mo_l y ∧ ¬ y = 0 := fun y hy => ⟨mo_l_in hv (hl y hy).1, (hl y hy).2⟩
      have hx : ¬ x ∈ ls := fun z => h3 ((cl_mem (mo_l_in hv h1) h2 hml).mpr z)
      by_cases h4 : ls.length < 6
      · rw [if_pos h4] at h
        refine ih _ _ _ _ (fun y hy => ?_) (List.nodup_cons.mpr ⟨hx, hn⟩) h
        rcases List.mem_cons.mp hy with z | z
        · rw [z]; exact ⟨h1, h2⟩
        · exact hl y z
      · rw [if_neg h4] at h; cases h
def fo_nd (cs : fo_C) : Prop := ∀ x, x ∈ cs → x.2.Nodup
theorem fg_cl_n {f : Nat → Int32} {L : Nat} {sk : Int32} {v : Nat} (hv : v ≤ 10) : ∀ (d : Nat) (q : Nat × Nat) (cs cs' : fo_C) (q' : Nat × Nat), fo_nd cs → fg_cl f L sk (nI v) d q cs = (some cs', q') → fo_nd cs' := by
  intro d
  induction d with
  | zero => intro q cs cs' q' h0 h; cases h; exact h0
  | succ d ih =>
    intro q cs cs' q' h0 h
    rw [fg_cl.eq_2] at h
    cases hc : cl_in f L sk (nI v) 160 q [] with
    | mk o q2 =>
      rw [hc] at h
      cases o with
      | none => cases h
      | some ls =>
        refine ih _ _ _ _ (fun x hx => ?_) h
        rcases List.mem_append.mp hx with z | z
        · exact h0 x z
        · rw [List.mem_singleton] at z
          subst z
          exact cl_in_n hv _ _ _ _ _ (fun y hy => by cases hy) List.nodup_nil hc
theorem fg_in_n {f : Nat → Int32} {L v : Nat} {cs : fo_C} {q : Nat × Nat} (h : fg_in f L = (some (nI v, cs), q)) (hv : v ≤ 10) : fo_nd cs := by
  unfold fg_in fg_ia at h
  split at h
  rotate_left
  · cases h
  unfold fg_ib at h
  split at h
  rotate_left
  · cases h
  unfold fg_ic at h
  split at h
  · cases h
  split at h
  rotate_left
  · cases h
  unfold fg_id at h
  split at h
  · cases h
  split at h
  rotate_left
  · cases h
  unfold fg_ie at h
  split at h
  · cases h
  rename_i hcl
  split at h
  · cases h
  cases h
  exact fg_cl_n hv _ _ _ _ _ (fun x hx => by cases hx) hcl
theorem sl_of {v : Nat} {cs : fo_C} {ma lt : Nat → Int32} (hg : fo_gd v cs) (hn : fo_nd cs) (hs : mo_sb 0 cs.length (cs.map (·.2)) ma lt) : sl_G v cs 0 ma lt := fun i x hx => by
  have hi : i < cs.length := by
    rcases Nat.lt_or_ge i cs.length with z | z
    · exact z
    · rw [List.getElem?_eq_none z] at hx; cases hx
  have hm : x ∈ cs := List.mem_of_getElem? hx
  obtain ⟨m1, m2⟩ := hs i x.2 hi (by rw [List.getElem?_map, hx]; rfl)
  exact ⟨m1, m2, hg x hm, hn x hm⟩
