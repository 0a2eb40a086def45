theorem mo_cw_f {f : Nat → Int32} {L : Nat} {rem : Bool} : ∀ (d d' p : Nat) (st rm : Bool), L < p + d → L < p + d' → mo_cw f L rem d p st rm = mo_cw f L rem d' p st rm := by
  intro d
  induction d with
  | zero =>
    intro d' p st rm h1 h2
    cases d' with
    | zero => rfl
    | succ d' => rw [mo_cw.eq_2, if_pos (by omega), mo_cw.eq_1]
  | succ d ih =>
    intro d' p st rm h1 h2
    cases d' with
    | zero => rw [mo_cw.eq_2, if_pos (by omega), mo_cw.eq_1]
    | succ d' =>
      rw [mo_cw.eq_2, mo_cw.eq_2]
      by_cases hp : L ≤ p
      · rw [if_pos hp, if_pos hp]
      rw [if_neg hp, if_neg hp]
      by_cases hb : tx_bl (f p) = true
      · rw [if_pos hb, if_pos hb]
        exact ih d' (p + 1) _ _ (by omega) (by omega)
      rw [if_neg hb, if_neg hb]
      have hw : p + 1 ≤ tx_we f L p := by
        rw [tx_we_s (by omega) (Bool.eq_false_iff.mpr hb)]
        exact (tx_we_b (by omega)).1
      by_cases hr : mo_rr f L rem p st rm = true
      · rw [if_pos hr, if_pos hr]
        exact ih d' _ _ _ (by omega) (by omega)
      · rw [if_neg hr, if_neg hr, ih d' _ _ _ (by omega) (by omega)]
/-- the words from a place on -/
def mo_ww (f : Nat → Int32) (L : Nat) (p : Nat) (st rm : Bool) : List (Nat × Nat) := mo_cw f L true (L + 1) p st rm
section
variable {f : Nat → Int32} {L p : Nat} {st rm : Bool}
theorem ww_e (h : L ≤ p) : mo_ww f L p st rm = [] := by
  unfold mo_ww
  rw [mo_cw.eq_2, if_pos h]
theorem ww_b (h : p < L) (hb : tx_bl (f p) = true) : mo_ww f L p st rm = mo_ww f L (p + 1) (st || decide (f p = 10)) (rm && !decide (f p = 10)) := by
  unfold mo_ww
  rw [mo_cw.eq_2, if_neg (by omega), if_pos hb]
  exact mo_cw_f _ _ _ _ _ (by omega) (by omega)
theorem ww_we (h : p < L) (hb : tx_bl (f p) = false) : p + 1 ≤ tx_we f L p ∧ tx_we f L p ≤ L := by
  rw [tx_we_s h hb]
  exact tx_we_b (by omega)
theorem ww_r (h : p < L) (hb : tx_bl (f p) = false) (hr : mo_rr f L true p st rm = true) : mo_ww f L p st rm = mo_ww f L (tx_we f L p) false true := by
  have := ww_we h hb
  unfold mo_ww
  rw [mo_cw.eq_2, if_neg (by omega), if_neg (by rw [hb]; decide), if_pos hr]
  exact mo_cw_f _ _ _ _ _ (by omega) (by omega)
theorem ww_w (h : p < L) (hb : tx_bl (f p) = false) (hr : mo_rr f L true p st rm = false) : mo_ww f L p st rm = (p, tx_we f L p) :: mo_ww f L (tx_we f L p) false false := by
  have := ww_we h hb
  unfold mo_ww
  rw [mo_cw.eq_2, if_neg (by omega), if_neg (by rw [hb]; decide), if_neg (by rw [hr]; decide), mo_cw_f _ (L + 1) _ _ _ (by omega) (by omega)]
theorem tx_ln_e (h : L ≤ p) : tx_ln f L p = p := tx_run_e h
theorem tx_ln_s (h : p < L) (hc : ¬ f p = 10) : tx_ln f L p = tx_ln f L (p + 1) := (tx_run_s h).trans (if_pos (by simp [tx_nl, hc]))
theorem tx_ln_g (h : p < L) (hc : f p = 10) : tx_ln f L p = p := (tx_run_s h).trans (if_neg (by simp [tx_nl, hc]))
theorem tx_bl_10 (h : f p = 10) : tx_bl (f p) = true := by simp [tx_bl, h]
theorem tx_bl_n (h : tx_bl (f p) = false) : ¬ f p = 10 ∧ ¬ f p = 32 := by
  refine ⟨fun z => ?_, fun z => ?_⟩
  · rw [tx_bl_10 z] at h; cases h
  · simp [tx_bl, z] at h
end
theorem tx_ln_we {f : Nat → Int32} {L : Nat} : ∀ (d p : Nat), p + d = L → tx_ln f L p = tx_ln f L (tx_we f L p) := by
  intro d
  induction d with
  | zero => intro p h; rw [tx_we_e (by omega)]
  | succ d ih =>
    intro p h
    cases hb : tx_bl (f p) with
    | true => rw [tx_we_g (by omega) hb]
    | false =>
      rw [tx_ln_s (by omega) (tx_bl_n hb).1, tx_we_s (by omega) hb]
      exact ih (p + 1) (by omega)
theorem ww_t {f : Nat → Int32} {L : Nat} : ∀ (d p : Nat) (st st' : Bool), p ≤ L → L - p ≤ d → mo_ww f L p st true = mo_ww f L (tx_ln f L p) st' false := by
  intro d
  induction d with
  | zero =>
    intro p st st' hp hd
    rw [tx_ln_e (by omega), ww_e (by omega), ww_e (by omega)]
  | succ d ih =>
    intro p st st' hp hd
    by_cases hpL : L ≤ p
    · rw [tx_ln_e hpL, ww_e hpL, ww_e hpL]
    by_cases hc : f p = 10
    · rw [tx_ln_g (by omega) hc, ww_b (by omega) (tx_bl_10 hc), ww_b (st := st') (by omega) (tx_bl_10 hc)]
      simp [hc]
    rw [tx_ln_s (by omega) hc]
    cases hb : tx_bl (f p) with
    | true =>
      rw [ww_b (by omega) hb]
      have e : (true && !decide (f p = 10)) = true := by simp [hc]
      rw [e]
      exact ih (p + 1) _ st' (by omega) (by omega)
    | false =>
      have hw := ww_we (L := L) (by omega) hb
      rw [ww_r (by omega) hb (by rfl), ih (tx_we f L p) false st' hw.2 (by omega), ← tx_ln_s (by omega) hc, tx_ln_we (L - p) p (by omega)]
theorem tx_bg_we {f : Nat → Int32} {L : Nat} : ∀ (d p : Nat), p + d = L → p < L → tx_bl (f p) = false → tx_bg f (tx_we f L p) = false := by
  intro d
  induction d with
  | zero => intro p h1 h2; omega
  | succ d ih =>
    intro p h1 h2 hb
    rw [tx_we_s h2 hb]
    by_cases hp : p + 1 < L
    · cases hb2 : tx_bl (f (p + 1)) with
      | false => exact ih (p + 1) (by omega) hp hb2
      | true =>
        rw [tx_we_g hp hb2]
        show (if f p = 32 then tx_bg f p else decide (f p = 10)) = false
        rw [if_neg (tx_bl_n hb).2]
        simp [(tx_bl_n hb).1]
    · rw [tx_we_e (by omega)]
      show (if f p = 32 then tx_bg f p else decide (f p = 10)) = false
      rw [if_neg (tx_bl_n hb).2]
      simp [(tx_bl_n hb).1]
theorem tx_sk_e {f : Nat → Int32} {L p : Nat} (h : L ≤ p) : tx_sk f L p = p := tx_run_e h
theorem tx_sk_s {f : Nat → Int32} {L p : Nat} (h : p < L) (hb : tx_bl (f p) = true) : tx_sk f L p = tx_sk f L (p + 1) := (tx_run_s h).trans (if_pos hb)
theorem tx_sk_g {f : Nat → Int32} {L p : Nat} (h : p < L) (hb : tx_bl (f p) = false) : tx_sk f L p = p := (tx_run_s h).trans (if_neg (by rw [hb]; decide))
theorem tx_is_0 {f : Nat → Int32} {a b : Nat} : tx_is f a b 0 = (decide (b - a = 1) && decide (f a = 99)) := by
  unfold tx_is
  by_cases h : b - a = 1
  · rw [h]
    show (decide (1 = 1) && (decide (f (a + 0) = sw_ch 0 0) && true)) = _
    rw [show sw_ch 0 0 = 99 by decide, Nat.add_zero]
    simp
  · have h9 : ¬ b - a = hw_sLen.getD 0 0 := h
    rw [decide_eq_false h9, decide_eq_false h]
    rfl
theorem tx_fx_0 {f : Nat → Int32} {L : Nat} {sk : Int32} {q : Nat × Nat} (h : tx_rm f sk q = false) : ∀ k, tx_fx f L sk k q = q := by
  intro k
  cases k with
  | zero => rfl
  | succ k => rw [tx_fx.eq_2, if_neg (by rw [h]; decide)]
theorem ww_f {f : Nat → Int32} {L : Nat} : ∀ (m p k : Nat), L - p = m → p ≤ L → m ≤ k → ((tx_fx f L 1 k (tx_st f L p) = (L, L) ∧ mo_ww f L p (tx_bg f p) false = []) ∨ ((tx_fx f L 1 k (tx_st f L p)).1 < L ∧ mo_ww f L p (tx_bg f p) false = tx_fx f L 1 k (tx_st f L p) :: mo_ww f L (tx_fx f L 1 k (tx_st f L p)).2 (tx_bg f (tx_fx f L 1 k (tx_st f L p)).2) false)) := by
  intro m
  induction m using Nat.strongRecOn with
  | ind m ih =>
    intro p k hm hp hk
    by_cases hpL : L ≤ p
    · have hp2 : p = L := by omega
      subst hp2
      have e : tx_st f p p = (p, p) := by
        unfold tx_st
        rw [tx_sk_e (Nat.le_refl _), tx_we_e (Nat.le_refl _)]
      refine Or.inl ⟨?_, ww_e (Nat.le_refl _)⟩
      rw [e]
      refine tx_fx_0 ?_ k
      unfold tx_rm
      rw [tx_is_0]
      simp
    cases hb : tx_bl (f p) with
    | true =>
      have e1 : tx_st f L p = tx_st f L (p + 1) := by
        unfold tx_st
        rw [tx_sk_s (by omega) hb]
      have e2 : (tx_bg f p || decide (f p = 10)) = tx_bg f (p + 1) := by
        show _ = (if f p = 32 then tx_bg f p else decide (f p = 10))
        by_cases h32 : f p = 32
        · rw [if_pos h32, h32]
          simp
        · rw [if_neg h32]
          have h10 : f p = 10 := by
            unfold tx_bl at hb
            simp [h32] at hb
            exact hb
          simp [h10]
      have e3 : mo_ww f L p (tx_bg f p) false = mo_ww f L (p + 1) (tx_bg f (p + 1)) false := by
        rw [ww_b (by omega) hb, e2]
        rfl
      rw [e1, e3]
      exact ih (L - (p + 1)) (by omega) (p + 1) k rfl (by omega) (by omega)
    | false =>
      have hw := ww_we (L := L) (by omega) hb
      have e1 : tx_st f L p = (p, tx_we f L p) := by
        unfold tx_st
        rw [tx_sk_g (by omega) hb]
      have e2 : tx_rm f 1 (p, tx_we f L p) = mo_rr f L true p (tx_bg f p) false := by
        unfold tx_rm mo_rr
        rw [tx_is_0]
        have e4 : decide (tx_we f L p - p = 1) = decide (tx_we f L p = p + 1) := by
          apply decide_eq_decide.mpr
          omega
        show (!decide ((1 : Int32) = 0) && (decide (tx_we f L p - p = 1) && decide (f p = 99) && tx_bg f p)) = _
        rw [e4]
        cases tx_bg f p <;> cases decide (tx_we f L p = p + 1) <;> cases decide (f p = 99) <;> rfl
      rw [e1]
      cases hr : mo_rr f L true p (tx_bg f p) false with
      | false =>
        have e3 := tx_fx_0 (L := L) (e2.trans hr) k
        rw [e3]
        refine Or.inr ⟨by show p < L; omega, ?_⟩
        rw [ww_w (by omega) hb hr, tx_bg_we (L - p) p (by omega) (by omega) hb]
      | true =>
        have h99 : f p = 99 := by
          unfold mo_rr at hr
          simp only [Bool.false_or, Bool.true_and, Bool.and_eq_true, decide_eq_true_eq] at hr
          exact hr.2.2
        have h10 : ¬ f p = 10 := by rw [h99]; decide
        have hln : p + 1 ≤ tx_ln f L p ∧ tx_ln f L p ≤ L := by
          rw [tx_ln_s (by omega) h10]
          exact tx_ln_b (by omega)
        obtain ⟨k', rfl⟩ : ∃ k', k = k' + 1 := ⟨k - 1, by omega⟩
        have e3 : tx_fx f L 1 (k' + 1) (p, tx_we f L p) = tx_fx f L 1 k' (tx_st f L (tx_ln f L p)) := by
          rw [tx_fx.eq_2, if_pos (e2.trans hr)]
        have e4 : mo_ww f L p (tx_bg f p) false = mo_ww f L (tx_ln f L p) (tx_bg f (tx_ln f L p)) false := by
          rw [ww_r (by omega) hb hr, ww_t L _ false (tx_bg f (tx_ln f L p)) hw.2 (by omega), ← tx_ln_we (L - p) p (by omega)]
        rw [e3, e4]
        exact ih (L - tx_ln f L p) (by omega) (tx_ln f L p) k' rfl hln.2 (by omega)
/-- the class's walk: the word at each step -/
def tx_P (f : Nat → Int32) (L : Nat) (e : Nat) : Nat → Nat × Nat
  | 0 => tx_adv f L 1 e
  | k + 1 => tx_P f L (tx_adv f L 1 e).2 k
theorem tx_P_s {f : Nat → Int32} {L : Nat} : ∀ (k e : Nat), tx_P f L e (k + 1) = tx_adv f L 1 (tx_P f L e k).2 := by
  intro k
  induction k with
  | zero => intro e; rfl
  | succ k ih =>
    intro e
    rw [tx_P.eq_2, ih, tx_P.eq_2]
theorem tx_P_w {f : Nat → Int32} {L : Nat} : ∀ (ls : List (Nat × Nat)) (e : Nat), e ≤ L → mo_ww f L e (tx_bg f e) false = ls → (∀ k, k < ls.length → ls[k]? = some (tx_P f L e k)) ∧ tx_P f L e ls.length = (L, L) := by
  intro ls
  induction ls with
  | nil =>
    intro e he h
    refine ⟨fun k hk => absurd hk (Nat.not_lt_zero _), ?_⟩
    rcases ww_f (L - e) e L rfl he (by omega) with ⟨h1, h2⟩ | ⟨h1, h2⟩
    · exact h1
    · rw [h2] at h; cases h
  | cons x ls ih =>
    intro e he h
    have hb := tx_adv_b (f := f) (len := L) (sk := 1) he
    rcases ww_f (L - e) e L rfl he (by omega) with ⟨h1, h2⟩ | ⟨h1, h2⟩
    · rw [h2] at h; cases h
    · rw [h2] at h
      have hx : tx_adv f L 1 e = x := (List.cons.inj h).1
      have hy : mo_ww f L (tx_adv f L 1 e).2 (tx_bg f (tx_adv f L 1 e).2) false = ls := (List.cons.inj h).2
      obtain ⟨i1, i2⟩ := ih (tx_adv f L 1 e).2 hb.2.2 hy
      refine ⟨fun k hk => ?_, i2⟩
      cases k with
      | zero => rw [tx_P.eq_1, hx]; rfl
      | succ k =>
        rw [tx_P.eq_2, List.getElem?_cons_succ]
        exact i1 k (by simpa using hk)
