theorem tx_dg_same {f : Nat → Int32} : ∀ (d p : Nat) (v : Int32) (bb : Bool), mo_dg f d p bb = (bb && (tx_dg f d p v).isSome) ∧ ∀ x, tx_dg f d p v = some x → mo_wv f d p v = x := by
  intro d
  induction d with
  | zero =>
    intro p v bb
    refine ⟨?_, fun x hx => ?_⟩
    · show bb = (bb && true)
      simp
    · have hx : some v = some x := hx
      exact Option.some.inj hx
  | succ d ih =>
    intro p v bb
    rw [mo_dg.eq_2, tx_dg.eq_2, mo_wv.eq_2]
    by_cases h1 : f p < 48
    · rw [if_pos h1]
      have e : tx_in (f p) 48 57 = false := by simp [tx_in, h1]
      refine ⟨?_, fun x hx => by cases hx⟩
      rw [e, (ih (p + 1) v _).1]
      simp
    rw [if_neg h1]
    by_cases h2 : f p ≤ 57
    · rw [if_pos h2]
      have e : tx_in (f p) 48 57 = true := by simp [tx_in, h1, h2]
      have h45 : ¬ f p = 45 := by
        intro z
        rw [z] at h1
        exact h1 (by decide)
      have e2 : 10 * v + f p - 48 = 10 * v + (f p - 48) := by
        rw [Int32.sub_eq_add_neg, Int32.add_assoc, ← Int32.sub_eq_add_neg]
      rw [if_neg h45, e2, e, (ih (p + 1) (10 * v + (f p - 48)) _).1]
      refine ⟨by simp, (ih (p + 1) (10 * v + (f p - 48)) bb).2⟩
    · rw [if_neg h2]
      have e : tx_in (f p) 48 57 = false := by simp [tx_in, Int32.not_le.mp h2]
      refine ⟨?_, fun x hx => by cases hx⟩
      rw [e, (ih (p + 1) v _).1]
      simp
theorem tx_in14 {m : Nat} (h : m ≤ 160) : tx_in (nI m) 1 4 = (decide (1 ≤ m) && decide (m ≤ 4)) := by
  have e1 : (nI m < 1) ↔ m < 1 := nI_ltI (b := 1) (by omega) (by omega)
  have e2 : ((4 : Int32) < nI m) ↔ 4 < m := nI_ltI (a := 4) (by omega) (by omega)
  have d1 : decide (nI m < 1) = decide (m < 1) := decide_eq_decide.mpr e1
  have d2 : decide ((4 : Int32) < nI m) = decide (4 < m) := decide_eq_decide.mpr e2
  unfold tx_in
  rw [d1, d2]
  by_cases h1 : m < 1 <;> by_cases h2 : 4 < m <;> simp [h1, h2] <;> omega
theorem num_same {f : Nat → Int32} {a b : Nat} (hab : a < b) (hb : b ≤ 160) : (tx_num f a b = none → mo_dn f a b = false) ∧ ∀ x, tx_num f a b = some x → mo_dn f a b = true ∧ mo_wo f a b = x := by
  unfold tx_num mo_dn mo_wo mo_fr
  by_cases h45 : f a = 45
  · rw [if_pos ⟨hab, h45⟩, if_pos h45, if_pos h45, tx_in14 (by omega), (tx_dg_same (f := f) (b - (a + 1)) (a + 1) 0 _).1]
    have ew : mo_wv f (b - a) a 0 = mo_wv f (b - (a + 1)) (a + 1) 0 := by
      rw [show b - a = (b - (a + 1)) + 1 by omega, mo_wv.eq_2, if_pos h45]
    by_cases h1 : b ≤ a + 1
    · rw [if_pos h1]
      refine ⟨fun _ => ?_, fun x hx => by cases hx⟩
      simp [show ¬ 1 ≤ b - (a + 1) by omega]
    rw [if_neg h1]
    by_cases h2 : b - (a + 1) ≤ 4
    · rw [if_pos h2]
      have hd := (tx_dg_same (f := f) (b - (a + 1)) (a + 1) 0 true).2
      cases hg : tx_dg f (b - (a + 1)) (a + 1) 0 with
      | none => exact ⟨fun _ => by simp, fun x hx => by cases hx⟩
      | some y =>
        refine ⟨fun hx => (by cases hx), fun x hx => ⟨?_, ?_⟩⟩
        · simp [h2, show 1 ≤ b - (a + 1) by omega]
        · rw [ew, hd y hg]
          exact Option.some.inj hx
    · rw [if_neg h2]
      refine ⟨fun _ => ?_, fun x hx => by cases hx⟩
      simp [h2]
  · rw [if_neg (fun z => h45 z.2), if_neg h45, if_neg h45, tx_in14 (by omega), (tx_dg_same (f := f) (b - a) a 0 _).1]
    rw [if_neg (show ¬ b ≤ a by omega)]
    by_cases h2 : b - a ≤ 4
    · rw [if_pos h2]
      have hd := (tx_dg_same (f := f) (b - a) a 0 true).2
      cases hg : tx_dg f (b - a) a 0 with
      | none => exact ⟨fun _ => by simp, fun x hx => by cases hx⟩
      | some y =>
        refine ⟨fun hx => (by cases hx), fun x hx => ⟨?_, ?_⟩⟩
        · simp [h2, show 1 ≤ b - a by omega]
        · rw [hd y hg]
          exact Option.some.inj hx
    · rw [if_neg h2]
      refine ⟨fun _ => ?_, fun x hx => by cases hx⟩
      simp [h2]
theorem iw_1 {f : Nat → Int32} {a b : Nat} : tx_is f a b 1 = mo_iw f a b 112 0 0 := by
  unfold tx_is mo_iw
  rw [if_pos rfl]
  by_cases h : b - a = 1
  · rw [h]
    show (decide (1 = 1) && (decide (f (a + 0) = sw_ch 1 0) && true)) = _
    rw [show sw_ch 1 0 = 112 by decide, Nat.add_zero]
    simp
  · have h9 : ¬ b - a = hw_sLen.getD 1 0 := h
    rw [decide_eq_false h9, decide_eq_false h]
    rfl
theorem iw_2 {f : Nat → Int32} {a b : Nat} : tx_is f a b 2 = mo_iw f a b 99 110 102 := by
  unfold tx_is mo_iw
  rw [if_neg (by decide)]
  by_cases h : b - a = 3
  · rw [h]
    show (decide (3 = 3) && (decide (f (a + 0) = sw_ch 2 0) && (decide (f (a + 1) = sw_ch 2 1) && (decide (f (a + 2) = sw_ch 2 2) && true)))) = _
    rw [show sw_ch 2 0 = 99 by decide, show sw_ch 2 1 = 110 by decide, show sw_ch 2 2 = 102 by decide, Nat.add_zero]
    simp
  · have h9 : ¬ b - a = hw_sLen.getD 2 0 := h
    rw [decide_eq_false h9, decide_eq_false h]
    rfl
theorem cl_or {a b x : Int32} : ((a ||| b) &&& x = 0) ↔ (a &&& x = 0 ∧ b &&& x = 0) := by
  have e1 : ∀ a b x : Int32, a &&& x = a &&& ((a ||| b) &&& x) := by
    intro a b x
    apply Int32.toBitVec_inj.mp
    simp only [Int32.toBitVec_and, Int32.toBitVec_or]
    ext i hi
    simp only [BitVec.getElem_and, BitVec.getElem_or]
    cases a.toBitVec[i] <;> cases b.toBitVec[i] <;> cases x.toBitVec[i] <;> rfl
  have e2 : (a ||| b) &&& x = (a &&& x) ||| (b &&& x) := by
    apply Int32.toBitVec_inj.mp
    simp only [Int32.toBitVec_and, Int32.toBitVec_or]
    ext i hi
    simp only [BitVec.getElem_and, BitVec.getElem_or]
    cases a.toBitVec[i] <;> cases b.toBitVec[i] <;> cases x.toBitVec[i] <;> rfl
  have e3 : a ||| b = b ||| a := by
    apply Int32.toBitVec_inj.mp
    simp only [Int32.toBitVec_or]
    ext i hi
    simp only [BitVec.getElem_or]
    cases a.toBitVec[i] <;> cases b.toBitVec[i] <;> rfl
  have z1 : ∀ a : Int32, a &&& 0 = 0 := by
    intro a
    apply Int32.toBitVec_inj.mp
    simp
  constructor
  · intro h
    refine ⟨?_, ?_⟩
    · rw [e1 a b x, h, z1]
    · rw [e1 b a x, ← e3, h, z1]
  · rintro ⟨h1, h2⟩
    rw [e2, h1, h2]
    decide
set_option maxRecDepth 100000 in
theorem cl_bit_i : ∀ i, i < 21 → ∀ j, j < 21 → i ≠ 10 → j ≠ 10 → ((cl_bit (nI i - 10) &&& cl_bit (nI j - 10)) = 0 ↔ i ≠ j) := by decide
theorem cl_mem {ls : List Int32} {x : Int32} (hx : mo_l x) (hx0 : ¬ x = 0) : (∀ y, y ∈ ls → mo_l y ∧ ¬ y = 0) → ((¬ (cl_mask ls &&& cl_bit x) = 0) ↔ x ∈ ls) := by
  induction ls with
  | nil =>
    intro _
    refine ⟨fun h => absurd ?_ h, fun h => by cases h⟩
    show (0 : Int32) &&& cl_bit x = 0
    apply Int32.toBitVec_inj.mp
    simp
  | cons y l ih =>
    intro h
    have ih := ih (fun z hz => h z (List.mem_cons_of_mem _ hz))
    have hy := h y (List.mem_cons_self)
    have e : (cl_bit y &&& cl_bit x) = 0 ↔ y ≠ x := by
      obtain ⟨⟨i, hi, rfl⟩, hy0⟩ := hy
      obtain ⟨j, hj, rfl⟩ := hx
      have n1 : i ≠ 10 := by rintro rfl; exact hy0 (by decide)
      have n2 : j ≠ 10 := by rintro rfl; exact hx0 (by decide)
      rw [cl_bit_i i (by omega) j (by omega) n1 n2]
      have inj : ∀ i, i < 21 → ∀ j, j < 21 → nI i - 10 = nI j - 10 → i = j := by decide
      exact ⟨fun z1 z2 => z1 (inj i (by omega) j (by omega) z2), fun z1 z2 => z1 (by rw [z2])⟩
    show (¬ ((cl_mask l ||| cl_bit y) &&& cl_bit x) = 0) ↔ _
    rw [cl_or, e, List.mem_cons, ← ih]
    constructor
    · intro z
      by_cases hyx : x = y
      · exact Or.inl hyx
      · exact Or.inr (fun z2 => z ⟨z2, fun z3 => hyx z3.symm⟩)
    · rintro (z | z) ⟨z1, z2⟩
      · exact z2 z.symm
      · exact z z1
/-- the words are the class's walk -/
def wf_W (f : Nat → Int32) (L n : Nat) (bg en : Nat → Int32) : Prop := L ≤ 160 ∧ n ≤ 80 ∧ (∀ k, k < n → bg k = nI (tx_P f L 0 k).1 ∧ en k = nI (tx_P f L 0 k).2 ∧ (tx_P f L 0 k).1 < (tx_P f L 0 k).2 ∧ (tx_P f L 0 k).2 ≤ L) ∧ tx_P f L 0 n = (L, L)
theorem wf_of {f : Nat → Int32} {L n : Nat} {bg en : Nat → Int32} (hL : L ≤ 160) (hn : n = (mo_cw f L true (L + 1) 0 true false).length) (hn8 : n ≤ 80) (hw : mo_wl L (mo_cw f L true (L + 1) 0 true false) bg en) : wf_W f L n bg en := by
  obtain ⟨h1, h2⟩ := tx_P_w (f := f) (L := L) (mo_cw f L true (L + 1) 0 true false) 0 (Nat.zero_le _) rfl
  rw [← hn] at h1 h2
  refine ⟨hL, hn8, fun k hk => ?_, h2⟩
  obtain ⟨a1, a2, a3, a4⟩ := hw k _ (h1 k hk)
  exact ⟨a3, a4, a1, a2⟩
section
variable {f : Nat → Int32} {L n : Nat} {bg en : Nat → Int32}
theorem tx_num_e {a : Nat} : tx_num f a a = none := by
  unfold tx_num
  rw [if_neg (fun z => absurd z.1 (by omega)), if_pos (Nat.le_refl _)]
theorem wf_nk (W : wf_W f L n bg en) {k : Nat} (hk : k < n) (lo up : Int32) : (tx_num f (tx_P f L 0 k).1 (tx_P f L 0 k).2 = none → mo_nk f bg en n k lo up = false) ∧ ∀ x, tx_num f (tx_P f L 0 k).1 (tx_P f L 0 k).2 = some x → mo_nk f bg en n k lo up = tx_in x lo up ∧ mo_wk f bg en k = x := by
  obtain ⟨h1, h2, h3, h4⟩ := W
  obtain ⟨a1, a2, a3, a4⟩ := h3 k hk
  rw [mo_nk_y hk a1 a2 (by omega) (by omega), mo_wk_y a1 a2 (by omega) (by omega)]
  obtain ⟨b1, b2⟩ := num_same (f := f) a3 (by omega)
  unfold mo_nb
  refine ⟨fun z => ?_, fun x z => ?_⟩
  · rw [b1 z]; rfl
  · obtain ⟨c1, c2⟩ := b2 x z
    rw [c1, c2]
    exact ⟨Bool.true_and _, rfl⟩
theorem wf_ik (W : wf_W f L n bg en) {k : Nat} (hk : k < n) (x1 x2 x3 : Int32) : mo_ik f bg en n k x1 x2 x3 = mo_iw f (tx_P f L 0 k).1 (tx_P f L 0 k).2 x1 x2 x3 := by
  obtain ⟨h1, h2, h3, h4⟩ := W
  obtain ⟨a1, a2, a3, a4⟩ := h3 k hk
  unfold mo_ik
  rw [a1, a2, nI_clamp (by omega), nI_clamp (by omega)]
  simp [hk]
theorem wf_fl (W : wf_W f L n bg en) {k : Nat} (hk : k ≤ n) : mo_fl (-1) n k L bg = nI (tx_P f L 0 k).1 := by
  obtain ⟨h1, h2, h3, h4⟩ := W
  unfold mo_fl
  rw [if_pos (by decide)]
  by_cases h : n ≤ k
  · have e : k = n := by omega
    subst e
    rw [if_pos h, h4]
  · rw [if_neg h]
    exact (h3 k (by omega)).1
theorem rc_same (W : wf_W f L n bg en) {v : Nat} (hv : v ≤ 10) : ∀ (m j k d : Nat) (ls : List Int32), n - j = m → j ≤ n → m < k → m < d → (∀ y, y ∈ ls → mo_l y ∧ ¬ y = 0) → ls.length ≤ 6 → cl_in f L 1 (nI v) k (tx_P f L 0 j) ls = ((mo_rc f bg en n (nI v) d j ls).1, tx_P f L 0 (mo_rc f bg en n (nI v) d j ls).2) ∧ (mo_rc f bg en n (nI v) d j ls).2 ≤ n ∧ ∀ ls', (mo_rc f bg en n (nI v) d j ls).1 = some ls' → ∀ y, y ∈ ls' → mo_l y ∧ ¬ y = 0 := by
  intro m
  induction m with
  | zero =>
    intro j k d ls hm hj hk hd hl h6
    have hjn : j = n := by omega
    subst hjn
    obtain ⟨k', rfl⟩ : ∃ k', k = k' + 1 := ⟨k - 1, by omega⟩
    obtain ⟨d', rfl⟩ : ∃ d', d = d' + 1 := ⟨d - 1, by omega⟩
    rw [mo_rc.eq_2, if_neg (by rw [mo_nk_n (Nat.lt_irrefl _)]; decide), cl_in.eq_2, W.2.2.2, tx_num_e]
    exact ⟨rfl, Nat.le_refl _, fun ls' z => by cases z⟩
  | succ m ih =>
    intro j k d ls hm hj hk hd hl h6
    obtain ⟨k', rfl⟩ : ∃ k', k = k' + 1 := ⟨k - 1, by omega⟩
    obtain ⟨d', rfl⟩ : ∃ d', d = d' + 1 := ⟨d - 1, by omega⟩
    have hjn : j < n := by omega
    obtain ⟨b1, b2⟩ := wf_nk W hjn (-(nI v)) (nI v)
    rw [mo_rc.eq_2, cl_in.eq_2]
    cases hnum : tx_num f (tx_P f L 0 j).1 (tx_P f L 0 j).2 with
    | none =>
      rw [b1 hnum, if_neg (by decide)]
      exact ⟨rfl, hj, fun ls' z => by cases z⟩
    | some x =>
      obtain ⟨c1, c2⟩ := b2 x hnum
      rw [c1, c2]
      show (if tx_in x (-(nI v)) (nI v) = true then _ else _) = _ ∧ _
      by_cases hin : tx_in x (-(nI v)) (nI v) = true
      rotate_left
      · rw [if_neg hin, if_neg hin]
        exact ⟨rfl, hj, fun ls' z => by cases z⟩
      rw [if_pos hin, if_pos hin]
      have hml := mo_l_in hv hin
      by_cases hx0 : x = 0
      · rw [if_pos hx0, if_pos hx0]
        refine ⟨?_, by show j + 1 ≤ n; omega, fun ls' z y hy => ?_⟩
        · show (some ls, tx_adv f L 1 (tx_P f L 0 j).2) = (some ls, tx_P f L 0 (j + 1))
          rw [tx_P_s]
        · cases z; exact hl y hy
      rw [if_neg hx0, if_neg hx0, ← tx_P_s]
      have hmm := cl_mem hml hx0 hl
      by_cases hmem : x ∈ ls
      · rw [if_pos hmem, if_pos (hmm.mpr hmem)]
        exact ih (j + 1) k' d' ls (by omega) (by omega) (by omega) (by omega) hl h6
      · rw [if_neg hmem, if_neg (fun z => hmem (hmm.mp z))]
        by_cases hl6 : ls.length = 6
        · rw [if_pos hl6, if_neg (by omega)]
          exact ⟨rfl, hj, fun ls' z => by cases z⟩
        · rw [if_neg hl6, if_pos (by omega)]
          refine ih (j + 1) k' d' (x :: ls) (by omega) (by omega) (by omega) (by omega) (fun y hy => ?_) (by simp; omega)
          rcases List.mem_cons.mp hy with z | z
          · rw [z]; exact ⟨hml, hx0⟩
          · exact hl y z
theorem rl_same (W : wf_W f L n bg en) {v : Nat} (hv : v ≤ 10) : ∀ (d j : Nat) (cs : fo_C), j ≤ n → (∀ k', mo_rl f bg en n (nI v) d j (cs.map (·.2)) = (none, k') → fg_cl f L 1 (nI v) d (tx_P f L 0 j) cs = (none, tx_P f L 0 k') ∧ k' ≤ n) ∧ (∀ cs2 k', mo_rl f bg en n (nI v) d j (cs.map (·.2)) = (some cs2, k') → k' ≤ n ∧ ∃ cs', fg_cl f L 1 (nI v) d (tx_P f L 0 j) cs = (some cs', tx_P f L 0 k') ∧ cs'.map (·.2) = cs2) := by
  intro d
  induction d with
  | zero =>
    intro j cs hj
    rw [mo_rl.eq_1, fg_cl.eq_1]
    refine ⟨fun k' z => (by cases z), fun cs2 k' z => ?_⟩
    cases z
    exact ⟨hj, cs, rfl, rfl⟩
  | succ d ih =>
    intro j cs hj
    rw [mo_rl.eq_2, fg_cl.eq_2]
    obtain ⟨r1, r2, -⟩ := rc_same W hv (n - j) j 160 81 [] rfl hj (by have := W.2.1; omega) (by have := W.2.1; omega) (fun y z => by cases z) (by decide)
    rw [r1]
    generalize mo_rc f bg en n (nI v) 81 j [] = R at r1 r2
    obtain ⟨o, k1⟩ := R
    have r2 : k1 ≤ n := r2
    cases o with
    | none =>
      refine ⟨fun k' z => ?_, fun cs2 k' z => ?_⟩
      · have z : ((none, k1) : Option mo_C × Nat) = (none, k') := z
        cases z
        exact ⟨rfl, r2⟩
      · have z : ((none, k1) : Option mo_C × Nat) = (some cs2, k') := z
        cases z
    | some ls =>
      have := ih k1 (cs ++ [(nI (cs.length + 1), ls)]) r2
      rw [List.map_append] at this
      exact this
/-- both tell the same formula, or the same fault -/
theorem rd_same (W : wf_W f L n bg en) : (∀ p0, fg_in f L = (none, p0) → (mo_rd f bg en n).1 = none ∧ mo_fl (-1) n (mo_rd f bg en n).2 L bg = nI p0.1) ∧ (∀ v cs p0, fg_in f L = (some (v, cs), p0) → (mo_rd f bg en n).1 = some (v, cs.map (·.2))) := by
  have hP0 : tx_adv f L 1 0 = tx_P f L 0 0 := rfl
  have hs : ∀ k, tx_adv f L 1 (tx_P f L 0 k).2 = tx_P f L 0 (k + 1) := fun k => (tx_P_s k 0).symm
  have hend : ∀ k, k ≤ n → ¬ k < n → tx_P f L 0 k = (L, L) := fun k h1 h2 => by
    have e : k = n := by omega
    rw [e]; exact W.2.2.2
  have FT : ∀ k, k ≤ n → mo_rd f bg en n = (none, k) → fg_in f L = (none, tx_P f L 0 k) → (∀ p0, fg_in f L = (none, p0) → (mo_rd f bg en n).1 = none ∧ mo_fl (-1) n (mo_rd f bg en n).2 L bg = nI p0.1) ∧ (∀ v cs p0, fg_in f L = (some (v, cs), p0) → (mo_rd f bg en n).1 = some (v, cs.map (·.2))) := by
    intro k hk e1 e2
    rw [e1, e2]
    refine ⟨fun p0 z => ?_, fun v cs p0 z => by cases z⟩
    cases z
    exact ⟨rfl, wf_fl W hk⟩
  have is0 : ∀ i, 0 < hw_sLen.getD i 0 → tx_is f L L i = false := fun i hi => by
    unfold tx_is
    rw [Nat.sub_self]
    have h9 : ¬ 0 = hw_sLen.getD i 0 := by omega
    rw [decide_eq_false h9]
    rfl
  -- p
  by_cases hi0 : mo_ik f bg en n 0 112 0 0 = true
  rotate_left
  · refine FT 0 (Nat.zero_le _) (by unfold mo_rd; rw [if_neg hi0]) ?_
    unfold fg_in fg_ia
    rw [hP0]
    by_cases h0 : 0 < n
    · rw [wf_ik W h0, ← iw_1] at hi0
      rw [if_neg hi0]
    · rw [hend 0 (Nat.zero_le _) h0]
      show (if tx_is f L L 1 = true then _ else _) = _
      rw [is0 1 (by decide), if_neg (by decide)]
  have h0 : 0 < n := by
    unfold mo_ik at hi0
    simp only [Bool.and_eq_true, decide_eq_true_eq] at hi0
    exact hi0.1
  have g0 : fg_in f L = fg_ib f L (tx_P f L 0 1) := by
    have hi1 := hi0
    rw [wf_ik W h0, ← iw_1] at hi1
    unfold fg_in fg_ia
    rw [hP0, if_pos hi1, hs 0]
  -- cnf
  by_cases hi1 : mo_ik f bg en n 1 99 110 102 = true
  rotate_left
  · refine FT 1 h0 (by unfold mo_rd; rw [if_pos hi0, if_neg hi1]) ?_
    rw [g0]
    unfold fg_ib
    by_cases h1 : 1 < n
    · rw [wf_ik W h1, ← iw_2] at hi1
      rw [if_neg hi1]
    · rw [hend 1 h0 h1]
      show (if tx_is f L L 2 = true then _ else _) = _
      rw [is0 2 (by decide), if_neg (by decide)]
  have h1 : 1 < n := by
    unfold mo_ik at hi1
    simp only [Bool.and_eq_true, decide_eq_true_eq] at hi1
    exact hi1.1
  have g1 : fg_in f L = fg_ic f L (tx_P f L 0 2) := by
    have hi2 := hi1
    rw [wf_ik W h1, ← iw_2] at hi2
    rw [g0]
    unfold fg_ib
    rw [if_pos hi2, hs 1]
  -- the variables
  by_cases hi2 : mo_nk f bg en n 2 1 10 = true
  rotate_left
  · refine FT 2 h1 (by unfold mo_rd; rw [if_pos hi0, if_pos hi1, if_neg hi2]) ?_
    rw [g1]
    unfold fg_ic
    by_cases h2 : 2 < n
    · obtain ⟨b1, b2⟩ := wf_nk W h2 1 10
      cases hnum : tx_num f (tx_P f L 0 2).1 (tx_P f L 0 2).2 with
      | none => rfl
      | some x =>
        rw [(b2 x hnum).1] at hi2
        show (if tx_in x 1 10 = true then _ else _) = _
        rw [if_neg hi2]
    · rw [hend 2 h1 h2]
      show (match tx_num f L L with | none => _ | some v => _) = _
      rw [tx_num_e]
  have h2 := (mo_nk_in hi2).1
  obtain ⟨v, hv1, hv2, hv3⟩ := tx_in10 (mo_nk_in hi2).2
  have g2 : fg_in f L = fg_id f L (nI v) (tx_P f L 0 3) := by
    obtain ⟨b1, b2⟩ := wf_nk W h2 1 10
    rw [g1]
    unfold fg_ic
    cases hnum : tx_num f (tx_P f L 0 2).1 (tx_P f L 0 2).2 with
    | none => rw [b1 hnum] at hi2; cases hi2
    | some x =>
      obtain ⟨c1, c2⟩ := b2 x hnum
      rw [c1] at hi2
      rw [c2] at hv3
      subst hv3
      show (if tx_in (nI v) 1 10 = true then _ else _) = _
      rw [if_pos hi2, hs 2]
  -- the clauses' number
  by_cases hi3 : mo_nk f bg en n 3 0 24 = true
  rotate_left
  · refine FT 3 h2 (by unfold mo_rd; rw [if_pos hi0, if_pos hi1, if_pos hi2, if_neg hi3]) ?_
    rw [g2]
    unfold fg_id
    by_cases h3 : 3 < n
    · obtain ⟨b1, b2⟩ := wf_nk W h3 0 24
      cases hnum : tx_num f (tx_P f L 0 3).1 (tx_P f L 0 3).2 with
      | none => rfl
      | some x =>
        rw [(b2 x hnum).1] at hi3
        show (if tx_in x 0 24 = true then _ else _) = _
        rw [if_neg hi3]
    · rw [hend 3 h2 h3]
      show (match tx_num f L L with | none => _ | some v => _) = _
      rw [tx_num_e]
  have h3 := (mo_nk_in hi3).1
  have g3 : fg_in f L = fg_ie f L (nI v) (mo_wk f bg en 3) (tx_P f L 0 4) := by
    obtain ⟨b1, b2⟩ := wf_nk W h3 0 24
    rw [g2]
    unfold fg_id
    cases hnum : tx_num f (tx_P f L 0 3).1 (tx_P f L 0 3).2 with
    | none => rw [b1 hnum] at hi3; cases hi3
    | some x =>
      obtain ⟨c1, c2⟩ := b2 x hnum
      rw [c1] at hi3
      rw [c2]
      show (if tx_in x 0 24 = true then _ else _) = _
      rw [if_pos hi3, hs 3]
  have hrd : mo_rd f bg en n = mo_re (nI v) n (mo_rl f bg en n (nI v) (mo_wk f bg en 3).toNatClampNeg 4 []) := by
    unfold mo_rd
    rw [if_pos hi0, if_pos hi1, if_pos hi2, if_pos hi3, hv3]
  obtain ⟨r1, r2⟩ := rl_same W hv2 (mo_wk f bg en 3).toNatClampNeg 4 [] h3
  have e0 : (([] : fo_C).map (·.2)) = ([] : mo_C) := rfl
  rw [e0] at r1 r2
  generalize mo_rl f bg en n (nI v) (mo_wk f bg en 3).toNatClampNeg 4 [] = R at r1 r2 hrd
  obtain ⟨o, k'⟩ := R
  cases o with
  | none =>
    obtain ⟨e1, e2⟩ := r1 k' rfl
    refine FT k' e2 hrd ?_
    rw [g3]
    unfold fg_ie
    rw [e1]
  | some cs2 =>
    obtain ⟨e1, cs', e2, e3⟩ := r2 cs2 k' rfl
    have hrd : mo_rd f bg en n = (if k' < n then (none, k') else (some (nI v, cs2), k')) := hrd
    have g4 : fg_in f L = (if nI (tx_P f L 0 k').1 < nI L then (none, tx_P f L 0 k') else (some (nI v, cs'), tx_P f L 0 k')) := by
      rw [g3]
      unfold fg_ie
      rw [e2]
    by_cases hk : k' < n
    · obtain ⟨-, -, a3, a4⟩ := W.2.2.1 k' hk
      rw [if_pos hk] at hrd
      have := W.1
      rw [if_pos (nI_lt (by omega) (by omega))] at g4
      exact FT k' e1 hrd g4
    · rw [if_neg hk] at hrd
      rw [hend k' e1 hk] at g4
      rw [if_neg (show ¬ nI (L, L).1 < nI L from fun z => Int32.lt_irrefl z)] at g4
      rw [hrd, g4]
      refine ⟨fun p0 z => (by cases z), fun v9 cs9 p0 z => ?_⟩
      cases z
      rw [e3]
end
