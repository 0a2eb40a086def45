def mo_kb (k : Nat) : Bool := !(Nat.beq k 8) && (!(Nat.beq k 260) && (!(Nat.beq k 190) && (!(Nat.beq k 189) && (!(Nat.beq k 634) && (!(Nat.beq k 140) && (!(Nat.beq k 112) && !(Nat.beq k 121)))))))
theorem hw_nb2 {w : hw_H} {a b : Nat} {e0 e1 : va_E} (h1 : w a = some e0) (h2 : w b = some e1) (h : hw_kd e0 ≠ hw_kd e1) : a ≠ b := by
  rintro rfl
  rw [h1] at h2
  cases h2
  exact h rfl
theorem mo_kn {g : hw_G} {w : hw_H} {r : Nat → Nat} {ty wo nx sz ft va cl lv hg em hn pl : Int32} {ch bg en ma lt nu hh kn bf : Nat → Int32} {y : Nat} {e : va_E} (H : mo_I g w r ty wo nx sz ft va cl lv hg em hn pl ch bg en ma lt nu hh kn bf) (hy : w y = some e) (hb : mo_kb (hw_kd e) = true) (i : Nat) (hi : i < 10) : y ≠ r i := by
  obtain ⟨D, M, A0, A1, A2, A3, A4, A5, A6, A7, A8⟩ := H
  unfold mo_kb at hb
  simp only [Bool.and_eq_true] at hb
  obtain ⟨b1, b2, b3, b4, b5, b6, b7, b8⟩ := hb
  have hc : i = 0 ∨ i = 1 ∨ i = 2 ∨ i = 3 ∨ i = 4 ∨ i = 5 ∨ i = 6 ∨ i = 7 ∨ i = 8 ∨ i = 9 := by omega
  rcases hc with rfl | rfl | rfl | rfl | rfl | rfl | rfl | rfl | rfl | rfl
  · exact hw_nb2 hy A0 (hw_nb b2)
  · exact hw_nb2 hy A1 (hw_nb b3)
  · exact hw_nb2 hy A2 (hw_nb b3)
  · exact hw_nb2 hy A3 (hw_nb b4)
  · exact hw_nb2 hy A4 (hw_nb b5)
  · exact hw_nb2 hy A5 (hw_nb b6)
  · exact hw_nb2 hy A6 (hw_nb b7)
  · exact hw_nb2 hy A7 (hw_nb b8)
  · exact hw_nb2 hy A8 (hw_nb b8)
  · exact hw_nb2 hy M (hw_nb b1)
theorem mo_I_k {g : hw_G} {w w' : hw_H} {r : Nat → Nat} {ty wo nx sz ft va cl lv hg em hn pl : Int32} {ch bg en ma lt nu hh kn bf : Nat → Int32} (H : mo_I g w r ty wo nx sz ft va cl lv hg em hn pl ch bg en ma lt nu hh kn bf) (hk : ∀ i, i < 10 → w' (r i) = w (r i)) : mo_I g w' r ty wo nx sz ft va cl lv hg em hn pl ch bg en ma lt nu hh kn bf := by
  obtain ⟨D, M, A0, A1, A2, A3, A4, A5, A6, A7, A8⟩ := H
  exact ⟨D, (hk 9 (by decide)).trans M, (hk 0 (by decide)).trans A0, (hk 1 (by decide)).trans A1, (hk 2 (by decide)).trans A2, (hk 3 (by decide)).trans A3, (hk 4 (by decide)).trans A4, (hk 5 (by decide)).trans A5, (hk 6 (by decide)).trans A6, (hk 7 (by decide)).trans A7, (hk 8 (by decide)).trans A8⟩
theorem mo_I_n {g : hw_G} {w : hw_H} {r : Nat → Nat} {ty wo nx sz ft va cl lv hg em hn pl : Int32} {ch bg en ma lt nu hh kn bf : Nat → Int32} (H : mo_I g w r ty wo nx sz ft va cl lv hg em hn pl ch bg en ma lt nu hh kn bf) (i : Nat) (hi : i < 10) : w (r i) ≠ none := by
  obtain ⟨D, M, A0, A1, A2, A3, A4, A5, A6, A7, A8⟩ := H
  have hc : i = 0 ∨ i = 1 ∨ i = 2 ∨ i = 3 ∨ i = 4 ∨ i = 5 ∨ i = 6 ∨ i = 7 ∨ i = 8 ∨ i = 9 := by omega
  rcases hc with rfl | rfl | rfl | rfl | rfl | rfl | rfl | rfl | rfl | rfl
  · exact hw_sn A0
  · exact hw_sn A1
  · exact hw_sn A2
  · exact hw_sn A3
  · exact hw_sn A4
  · exact hw_sn A5
  · exact hw_sn A6
  · exact hw_sn A7
  · exact hw_sn A8
  · exact hw_sn M
/-- the reference between two calls -/
def mo_P (g : hw_G) (w : hw_H) (r : Nat → Nat) (L : Nat) (ch : Nat → Int32) (v kc : Nat) (ma lt : Nat → Int32) : Prop := (L ≤ 160 ∧ v ≤ 10 ∧ kc ≤ 24 ∧ mo_a ma lt) ∧ ∃ (wo nx sz ft hg em hn pl : Int32) (Lv : Nat) (bg en nu hh kn bf : Nat → Int32), (Lv ≤ 40 ∧ hw_b em) ∧ mo_I g w r (nI L) wo nx sz ft (nI v) (nI kc) (nI Lv) hg em hn pl ch bg en ma lt nu hh kn bf
/-- the two stand side by side -/
def lw_D (X T TC P PA : Nat) (q r : Nat → Nat) : Prop := ∀ i, i < 10 → r i ≠ X ∧ r i ≠ T ∧ r i ≠ TC ∧ r i ≠ P ∧ r i ≠ PA ∧ ∀ j, j < 6 → r i ≠ q j
section
variable {g : hw_G} {w w' : hw_H} {X T TC P PA : Nat} {q r : Nat → Nat} {len : Nat} {f : Nat → Int32} {F v : Nat} {cs : fo_C} {cnt : Int32} {t : sx_T} {L vm kc : Nat} {ch ma lt : Nat → Int32}
theorem mo_P_co (HI : co_I g w X T TC P PA q len f F v cs cnt t) (HP : mo_P g w r L ch vm kc ma lt) (dj : lw_D X T TC P PA q r) (hK : co_K w w' X T TC P PA q F) : mo_P g w' r L ch vm kc ma lt := by
  obtain ⟨h1, wo, nx, sz, ft, hg, em, hn, pl, Lv, bg, en, nu, hh, kn, bf, h2, H⟩ := HP
  obtain ⟨hX, ⟨hl, hC⟩, ⟨sk, st, e9, n9, hT⟩, ⟨ps, ph, pe, h, hP, hps, hpe, hPA, hpr⟩, ⟨hS, hok⟩, fa, hf, hF, hv, hn9, hfa, hcs⟩ := HI
  refine ⟨h1, wo, nx, sz, ft, hg, em, hn, pl, Lv, bg, en, nu, hh, kn, bf, h2, mo_I_k H (fun i hi => ?_)⟩
  obtain ⟨d1, d2, d3, d4, d5, d6⟩ := dj i hi
  exact hK _ (mo_I_n H i hi) d1 d2 d3 d4 d5 d6 (mo_kn H hF rfl i hi).symm
theorem co_I_mo (HI : co_I g w X T TC P PA q len f F v cs cnt t) (HP : mo_P g w r L ch vm kc ma lt) (dj : lw_D X T TC P PA q r) (hK : mo_K w w' r) : co_I g w' X T TC P PA q len f F v cs cnt t := by
  obtain ⟨-, wo, nx, sz, ft, hg, em, hn, pl, Lv, bg, en, nu, hh, kn, bf, -, H⟩ := HP
  obtain ⟨hX, ⟨hl, hC⟩, ⟨sk, st, e9, n9, hT⟩, ⟨ps, ph, pe, h, hP, hps, hpe, hPA, hpr⟩, ⟨hS, hok⟩, fa, hf, hF, hv, hn9, hfa, hcs⟩ := HI
  have kp : ∀ {y : Nat} {e : va_E}, w y = some e → (∀ i, i < 10 → y ≠ r i) → w' y = some e := fun hy hn => (hK _ hn).trans hy
  have kk : ∀ {y : Nat} {e : va_E}, w y = some e → mo_kb (hw_kd e) = true → w' y = some e := fun hy hb => kp hy (mo_kn H hy hb)
  have hc : cl_F w w' := fun y e hy hc => by
    refine kk hy ?_
    rcases hc with hc | hc
    · rw [hc]; rfl
    · rw [hc]; rfl
  exact ⟨kp hX (fun i hi => (dj i hi).1.symm), ⟨hl, kp hC (fun i hi => (dj i hi).2.2.1.symm)⟩, ⟨sk, st, e9, n9, kp hT (fun i hi => (dj i hi).2.1.symm)⟩, ⟨ps, ph, pe, h, kp hP (fun i hi => (dj i hi).2.2.2.1.symm), hps, hpe, kp hPA (fun i hi => (dj i hi).2.2.2.2.1.symm), pr_ar_f hc hpr⟩, ⟨sx_I_k hS (fun j hj => hK _ (fun i hi => ((dj i hi).2.2.2.2.2 j hj).symm)), hok⟩, fa, hf, kk hF rfl, hv, hn9, kk hfa rfl, fg_ar_f hc hcs⟩
theorem tx_ok_l {x n : Int32} (hl : len ≤ 160) (h : tx_ok len x n = true) : len + n.toNatClampNeg ≤ 160 := by
  by_cases h1 : n < 1
  · rw [tx_no1 h1] at h; cases h
  by_cases h4 : 4 < n
  · rw [tx_no4 h4] at h; cases h
  obtain ⟨j, hj1, hj4, rfl, hj5⟩ := tx_n4 h1 h4
  by_cases h6 : 160 < nI len + nI j
  · rw [tx_no160 h6] at h; cases h
  rw [tx_160 hl hj4] at h6
  rw [hj5]; omega
def tx_nl2 (len : Nat) (x n : Int32) : Nat := if tx_ok len x n = true then len + n.toNatClampNeg else len
def tx_nf (len : Nat) (f : Nat → Int32) (x n : Int32) : Nat → Int32 := if tx_ok len x n = true then tx_put x n.toNatClampNeg f len else f
theorem co_I_ty {x n : Int32} {r0 : Int32} (HI : co_I g w X T TC P PA q len f F v cs cnt t) {sk st e9 n9 : Int32} (hp : r0 = hw_z (tx_ok len x n) ∧ (tx_ok len x n = false → w' = w) ∧ (tx_ok len x n = true → w' T = some (tx_o TC (nI (len + n.toNatClampNeg)) sk st e9 n9) ∧ w' TC = some (.inl (g.2.1 1, 160, .inl (tx_put x n.toNatClampNeg f len))) ∧ ∀ a, a ≠ T → a ≠ TC → w' a = w a)) : co_I g w' X T TC P PA q (tx_nl2 len x n) (tx_nf len f x n) F v cs cnt t ∧ co_K w w' X T TC P PA q F := by
  obtain ⟨-, h1, h2⟩ := hp
  unfold tx_nl2 tx_nf
  by_cases h : tx_ok len x n = true
  · rw [if_pos h, if_pos h]
    obtain ⟨a1, a2, a3⟩ := h2 h
    exact ⟨co_I_T HI a1 a2 (tx_ok_l HI.2.1.1 h) (fun y _ y1 y2 => a3 y y1 y2), fun y _ _ y1 y2 _ _ _ _ => a3 y y1 y2⟩
  · rw [if_neg h, if_neg h]
    have e := h1 (Bool.eq_false_iff.mpr h)
    subst e
    exact ⟨HI, co_K_r⟩
theorem mo_P_ty {x n : Int32} {r0 : Int32} {wo nx sz ft hg em hn pl : Int32} {Lv : Nat} {bg en nu hh kn bf : Nat → Int32} (h0 : L ≤ 160 ∧ vm ≤ 10 ∧ kc ≤ 24 ∧ mo_a ma lt) (hq : Lv ≤ 40 ∧ hw_b em) (H : mo_I g w r (nI L) wo nx sz ft (nI vm) (nI kc) (nI Lv) hg em hn pl ch bg en ma lt nu hh kn bf) (hp : r0 = hw_z (tx_ok L x n) ∧ (tx_ok L x n = false → w' = w) ∧ (tx_ok L x n = true → w' (r 9) = some (mo_g r (nI (L + n.toNatClampNeg)) wo nx sz ft (nI vm) (nI kc) (nI Lv) hg em hn pl) ∧ w' (r 0) = some (.inl (g.2.1 0, 160, .inl (tx_put x n.toNatClampNeg ch L))) ∧ ∀ a, a ≠ r 9 → a ≠ r 0 → w' a = w a)) : mo_P g w' r (tx_nl2 L x n) (tx_nf L ch x n) vm kc ma lt ∧ mo_K w w' r := by
  obtain ⟨-, h1, h2⟩ := hp
  unfold tx_nl2 tx_nf
  by_cases h : tx_ok L x n = true
  · rw [if_pos h, if_pos h]
    obtain ⟨a1, a2, a3⟩ := h2 h
    obtain ⟨D, M, A0, A1, A2, A3, A4, A5, A6, A7, A8⟩ := H
    have kp : ∀ i, i < 9 → i ≠ 0 → w' (r i) = w (r i) := fun i hi hi0 => a3 _ (D i 9 (by omega) (by decide) (by omega)) (D i 0 (by omega) (by decide) hi0)
    refine ⟨⟨⟨tx_ok_l h0.1 h, h0.2⟩, wo, nx, sz, ft, hg, em, hn, pl, Lv, bg, en, nu, hh, kn, bf, hq, D, a1, a2, (kp 1 (by decide) (by decide)).trans A1, (kp 2 (by decide) (by decide)).trans A2, (kp 3 (by decide) (by decide)).trans A3, (kp 4 (by decide) (by decide)).trans A4, (kp 5 (by decide) (by decide)).trans A5, (kp 6 (by decide) (by decide)).trans A6, (kp 7 (by decide) (by decide)).trans A7, (kp 8 (by decide) (by decide)).trans A8⟩, fun y hy => a3 y (hy 9 (by decide)) (hy 0 (by decide))⟩
  · rw [if_neg h, if_neg h]
    have e := h1 (Bool.eq_false_iff.mpr h)
    subst e
    exact ⟨⟨h0, wo, nx, sz, ft, hg, em, hn, pl, Lv, bg, en, nu, hh, kn, bf, hq, H⟩, mo_K_r⟩
theorem lw_c {L j : Nat} (hL : L ≤ 1536) (hj : j ≤ 600) : (Int32.ofNat L - (3 : Int32) < nI (3 * j)) ↔ L < 3 * j + 3 := by
  rw [Int32.lt_iff_toInt_lt]
  have e1 : (Int32.ofNat L - (3 : Int32)).toInt = (L : Int) - 3 := pk_sub_toInt (a := L) (b := 3) (by omega) (by omega)
  rw [e1, nI_toInt (by omega)]
  omega
end
