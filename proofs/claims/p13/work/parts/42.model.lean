abbrev ar_b (g : hw_G) (n : Nat) (f : Nat → Int32) : va_E := .inl (g.2.1 2, n, .inl f)
def mo_D (r : Nat → Nat) : Prop := ∀ i j, i < 10 → j < 10 → i ≠ j → r i ≠ r j
/-- the reference's cells -/
def mo_I (g : hw_G) (w : hw_H) (r : Nat → Nat) (ty wo nx sz ft va cl lv hg em hn pl : Int32) (ch bg en ma lt nu hh kn bf : Nat → Int32) : Prop := mo_D r ∧ w (r 9) = some (mo_g r ty wo nx sz ft va cl lv hg em hn pl) ∧ w (r 0) = some (ar_i g 160 ch) ∧ w (r 1) = some (ar_i g 90 bg) ∧ w (r 2) = some (ar_i g 90 en) ∧ w (r 3) = some (ar_i g 89 ma) ∧ w (r 4) = some (ar_i g 534 lt) ∧ w (r 5) = some (ar_i g 40 nu) ∧ w (r 6) = some (ar_i g 12 hh) ∧ w (r 7) = some (ar_b g 21 kn) ∧ w (r 8) = some (ar_b g 21 bf)
def mo_K (w w' : hw_H) (r : Nat → Nat) : Prop := ∀ y, (∀ i, i < 10 → y ≠ r i) → w' y = w y
theorem mo_K_r {w : hw_H} {r : Nat → Nat} : mo_K w w r := fun _ _ => rfl
theorem mo_K_t {w w1 w2 : hw_H} {r : Nat → Nat} (h1 : mo_K w w1 r) (h2 : mo_K w1 w2 r) : mo_K w w2 r := fun y hy => (h2 y hy).trans (h1 y hy)
theorem mo_K_u {w w1 : hw_H} {r : Nat → Nat} {i : Nat} {e : Option va_E} (h1 : mo_K w w1 r) (hi : i < 10) : mo_K w (va_up w1 (r i) e) r := fun y hy => (va_up_ne _ _ (hy i hi)).trans (h1 y hy)
theorem mo_u9 {g : hw_G} {w : hw_H} {r : Nat → Nat} {ty wo nx sz ft va cl lv hg em hn pl : Int32} {ch bg en ma lt nu hh kn bf : Nat → Int32} (ty' wo' nx' sz' ft' va' cl' lv' hg' em' hn' pl' : Int32) (H : mo_I g w r ty wo nx sz ft va cl lv hg em hn pl ch bg en ma lt nu hh kn bf) : mo_I g (va_up w (r 9) (some (mo_g r ty' wo' nx' sz' ft' va' cl' lv' hg' em' hn' pl'))) r ty' wo' nx' sz' ft' va' cl' lv' hg' em' hn' pl' ch bg en ma lt nu hh kn bf := by
  obtain ⟨D, M, A0, A1, A2, A3, A4, A5, A6, A7, A8⟩ := H
  refine ⟨D, va_up_self _ _ _, ?_, ?_, ?_, ?_, ?_, ?_, ?_, ?_, ?_⟩
  · rw [va_up_ne _ _ (D 0 9 (by decide) (by decide) (by decide))]; exact A0
  · rw [va_up_ne _ _ (D 1 9 (by decide) (by decide) (by decide))]; exact A1
  · rw [va_up_ne _ _ (D 2 9 (by decide) (by decide) (by decide))]; exact A2
  · rw [va_up_ne _ _ (D 3 9 (by decide) (by decide) (by decide))]; exact A3
  · rw [va_up_ne _ _ (D 4 9 (by decide) (by decide) (by decide))]; exact A4
  · rw [va_up_ne _ _ (D 5 9 (by decide) (by decide) (by decide))]; exact A5
  · rw [va_up_ne _ _ (D 6 9 (by decide) (by decide) (by decide))]; exact A6
  · rw [va_up_ne _ _ (D 7 9 (by decide) (by decide) (by decide))]; exact A7
  · rw [va_up_ne _ _ (D 8 9 (by decide) (by decide) (by decide))]; exact A8
theorem mo_u0 {g : hw_G} {w : hw_H} {r : Nat → Nat} {ty wo nx sz ft va cl lv hg em hn pl : Int32} {ch bg en ma lt nu hh kn bf : Nat → Int32} (f : Nat → Int32) (H : mo_I g w r ty wo nx sz ft va cl lv hg em hn pl ch bg en ma lt nu hh kn bf) : mo_I g (va_up w (r 0) (some (ar_i g 160 f))) r ty wo nx sz ft va cl lv hg em hn pl f bg en ma lt nu hh kn bf := by
  obtain ⟨D, M, A0, A1, A2, A3, A4, A5, A6, A7, A8⟩ := H
  refine ⟨D, ?_, ?_, ?_, ?_, ?_, ?_, ?_, ?_, ?_, ?_⟩
  · rw [va_up_ne _ _ (D 9 0 (by decide) (by decide) (by decide))]; exact M
  · exact va_up_self _ _ _
  · rw [va_up_ne _ _ (D 1 0 (by decide) (by decide) (by decide))]; exact A1
  · rw [va_up_ne _ _ (D 2 0 (by decide) (by decide) (by decide))]; exact A2
  · rw [va_up_ne _ _ (D 3 0 (by decide) (by decide) (by decide))]; exact A3
  · rw [va_up_ne _ _ (D 4 0 (by decide) (by decide) (by decide))]; exact A4
  · rw [va_up_ne _ _ (D 5 0 (by decide) (by decide) (by decide))]; exact A5
  · rw [va_up_ne _ _ (D 6 0 (by decide) (by decide) (by decide))]; exact A6
  · rw [va_up_ne _ _ (D 7 0 (by decide) (by decide) (by decide))]; exact A7
  · rw [va_up_ne _ _ (D 8 0 (by decide) (by decide) (by decide))]; exact A8
theorem mo_u1 {g : hw_G} {w : hw_H} {r : Nat → Nat} {ty wo nx sz ft va cl lv hg em hn pl : Int32} {ch bg en ma lt nu hh kn bf : Nat → Int32} (f : Nat → Int32) (H : mo_I g w r ty wo nx sz ft va cl lv hg em hn pl ch bg en ma lt nu hh kn bf) : mo_I g (va_up w (r 1) (some (ar_i g 90 f))) r ty wo nx sz ft va cl lv hg em hn pl ch f en ma lt nu hh kn bf := by
  obtain ⟨D, M, A0, A1, A2, A3, A4, A5, A6, A7, A8⟩ := H
  refine ⟨D, ?_, ?_, ?_, ?_, ?_, ?_, ?_, ?_, ?_, ?_⟩
  · rw [va_up_ne _ _ (D 9 1 (by decide) (by decide) (by decide))]; exact M
  · rw [va_up_ne _ _ (D 0 1 (by decide) (by decide) (by decide))]; exact A0
  · exact va_up_self _ _ _
  · rw [va_up_ne _ _ (D 2 1 (by decide) (by decide) (by decide))]; exact A2
  · rw [va_up_ne _ _ (D 3 1 (by decide) (by decide) (by decide))]; exact A3
  · rw [va_up_ne _ _ (D 4 1 (by decide) (by decide) (by decide))]; exact A4
  · rw [va_up_ne _ _ (D 5 1 (by decide) (by decide) (by decide))]; exact A5
  · rw [va_up_ne _ _ (D 6 1 (by decide) (by decide) (by decide))]; exact A6
  · rw [va_up_ne _ _ (D 7 1 (by decide) (by decide) (by decide))]; exact A7
  · rw [va_up_ne _ _ (D 8 1 (by decide) (by decide) (by decide))]; exact A8
theorem mo_u2 {g : hw_G} {w : hw_H} {r : Nat → Nat} {ty wo nx sz ft va cl lv hg em hn pl : Int32} {ch bg en ma lt nu hh kn bf : Nat → Int32} (f : Nat → Int32) (H : mo_I g w r ty wo nx sz ft va cl lv hg em hn pl ch bg en ma lt nu hh kn bf) : mo_I g (va_up w (r 2) (some (ar_i g 90 f))) r ty wo nx sz ft va cl lv hg em hn pl ch bg f ma lt nu hh kn bf := by
  obtain ⟨D, M, A0, A1, A2, A3, A4, A5, A6, A7, A8⟩ := H
  refine ⟨D, ?_, ?_, ?_, ?_, ?_, ?_, ?_, ?_, ?_, ?_⟩
  · rw [va_up_ne _ _ (D 9 2 (by decide) (by decide) (by decide))]; exact M
  · rw [va_up_ne _ _ (D 0 2 (by decide) (by decide) (by decide))]; exact A0
  · rw [va_up_ne _ _ (D 1 2 (by decide) (by decide) (by decide))]; exact A1
  · exact va_up_self _ _ _
  · rw [va_up_ne _ _ (D 3 2 (by decide) (by decide) (by decide))]; exact A3
  · rw [va_up_ne _ _ (D 4 2 (by decide) (by decide) (by decide))]; exact A4
  · rw [va_up_ne _ _ (D 5 2 (by decide) (by decide) (by decide))]; exact A5
  · rw [va_up_ne _ _ (D 6 2 (by decide) (by decide) (by decide))]; exact A6
  · rw [va_up_ne _ _ (D 7 2 (by decide) (by decide) (by decide))]; exact A7
  · rw [va_up_ne _ _ (D 8 2 (by decide) (by decide) (by decide))]; exact A8
theorem mo_u3 {g : hw_G} {w : hw_H} {r : Nat → Nat} {ty wo nx sz ft va cl lv hg em hn pl : Int32} {ch bg en ma lt nu hh kn bf : Nat → Int32} (f : Nat → Int32) (H : mo_I g w r ty wo nx sz ft va cl lv hg em hn pl ch bg en ma lt nu hh kn bf) : mo_I g (va_up w (r 3) (some (ar_i g 89 f))) r ty wo nx sz ft va cl lv hg em hn pl ch bg en f lt nu hh kn bf := by
  obtain ⟨D, M, A0, A1, A2, A3, A4, A5, A6, A7, A8⟩ := H
  refine ⟨D, ?_, ?_, ?_, ?_, ?_, ?_, ?_, ?_, ?_, ?_⟩
  · rw [va_up_ne _ _ (D 9 3 (by decide) (by decide) (by decide))]; exact M
  · rw [va_up_ne _ _ (D 0 3 (by decide) (by decide) (by decide))]; exact A0
  · rw [va_up_ne _ _ (D 1 3 (by decide) (by decide) (by decide))]; exact A1
  · rw [va_up_ne _ _ (D 2 3 (by decide) (by decide) (by decide))]; exact A2
  · exact va_up_self _ _ _
  · rw [va_up_ne _ _ (D 4 3 (by decide) (by decide) (by decide))]; exact A4
  · rw [va_up_ne _ _ (D 5 3 (by decide) (by decide) (by decide))]; exact A5
  · rw [va_up_ne _ _ (D 6 3 (by decide) (by decide) (by decide))]; exact A6
  · rw [va_up_ne _ _ (D 7 3 (by decide) (by decide) (by decide))]; exact A7
  · rw [va_up_ne _ _ (D 8 3 (by decide) (by decide) (by decide))]; exact A8
theorem mo_u4 {g : hw_G} {w : hw_H} {r : Nat → Nat} {ty wo nx sz ft va cl lv hg em hn pl : Int32} {ch bg en ma lt nu hh kn bf : Nat → Int32} (f : Nat → Int32) (H : mo_I g w r ty wo nx sz ft va cl lv hg em hn pl ch bg en ma lt nu hh kn bf) : mo_I g (va_up w (r 4) (some (ar_i g 534 f))) r ty wo nx sz ft va cl lv hg em hn pl ch bg en ma f nu hh kn bf := by
  obtain ⟨D, M, A0, A1, A2, A3, A4, A5, A6, A7, A8⟩ := H
  refine ⟨D, ?_, ?_, ?_, ?_, ?_, ?_, ?_, ?_, ?_, ?_⟩
  · rw [va_up_ne _ _ (D 9 4 (by decide) (by decide) (by decide))]; exact M
  · rw [va_up_ne _ _ (D 0 4 (by decide) (by decide) (by decide))]; exact A0
  · rw [va_up_ne _ _ (D 1 4 (by decide) (by decide) (by decide))]; exact A1
  · rw [va_up_ne _ _ (D 2 4 (by decide) (by decide) (by decide))]; exact A2
  · rw [va_up_ne _ _ (D 3 4 (by decide) (by decide) (by decide))]; exact A3
  · exact va_up_self _ _ _
  · rw [va_up_ne _ _ (D 5 4 (by decide) (by decide) (by decide))]; exact A5
  · rw [va_up_ne _ _ (D 6 4 (by decide) (by decide) (by decide))]; exact A6
  · rw [va_up_ne _ _ (D 7 4 (by decide) (by decide) (by decide))]; exact A7
  · rw [va_up_ne _ _ (D 8 4 (by decide) (by decide) (by decide))]; exact A8
theorem mo_u5 {g : hw_G} {w : hw_H} {r : Nat → Nat} {ty wo nx sz ft va cl lv hg em hn pl : Int32} {ch bg en ma lt nu hh kn bf : Nat → Int32} (f : Nat → Int32) (H : mo_I g w r ty wo nx sz ft va cl lv hg em hn pl ch bg en ma lt nu hh kn bf) : mo_I g (va_up w (r 5) (some (ar_i g 40 f))) r ty wo nx sz ft va cl lv hg em hn pl ch bg en ma lt f hh kn bf := by
  obtain ⟨D, M, A0, A1, A2, A3, A4, A5, A6, A7, A8⟩ := H
  refine ⟨D, ?_, ?_, ?_, ?_, ?_, ?_, ?_, ?_, ?_, ?_⟩
  · rw [va_up_ne _ _ (D 9 5 (by decide) (by decide) (by decide))]; exact M
  · rw [va_up_ne _ _ (D 0 5 (by decide) (by decide) (by decide))]; exact A0
  · rw [va_up_ne _ _ (D 1 5 (by decide) (by decide) (by decide))]; exact A1
  · rw [va_up_ne _ _ (D 2 5 (by decide) (by decide) (by decide))]; exact A2
  · rw [va_up_ne _ _ (D 3 5 (by decide) (by decide) (by decide))]; exact A3
  · rw [va_up_ne _ _ (D 4 5 (by decide) (by decide) (by decide))]; exact A4
  · exact va_up_self _ _ _
  · rw [va_up_ne _ _ (D 6 5 (by decide) (by decide) (by decide))]; exact A6
  · rw [va_up_ne _ _ (D 7 5 (by decide) (by decide) (by decide))]; exact A7
  · rw [va_up_ne _ _ (D 8 5 (by decide) (by decide) (by decide))]; exact A8
theorem mo_u6 {g : hw_G} {w : hw_H} {r : Nat → Nat} {ty wo nx sz ft va cl lv hg em hn pl : Int32} {ch bg en ma lt nu hh kn bf : Nat → Int32} (f : Nat → Int32) (H : mo_I g w r ty wo nx sz ft va cl lv hg em hn pl ch bg en ma lt nu hh kn bf) : mo_I g (va_up w (r 6) (some (ar_i g 12 f))) r ty wo nx sz ft va cl lv hg em hn pl ch bg en ma lt nu f kn bf := by
  obtain ⟨D, M, A0, A1, A2, A3, A4, A5, A6, A7, A8⟩ := H
  refine ⟨D, ?_, ?_, ?_, ?_, ?_, ?_, ?_, ?_, ?_, ?_⟩
  · rw [va_up_ne _ _ (D 9 6 (by decide) (by decide) (by decide))]; exact M
  · rw [va_up_ne _ _ (D 0 6 (by decide) (by decide) (by decide))]; exact A0
  · rw [va_up_ne _ _ (D 1 6 (by decide) (by decide) (by decide))]; exact A1
  · rw [va_up_ne _ _ (D 2 6 (by decide) (by decide) (by decide))]; exact A2
  · rw [va_up_ne _ _ (D 3 6 (by decide) (by decide) (by decide))]; exact A3
  · rw [va_up_ne _ _ (D 4 6 (by decide) (by decide) (by decide))]; exact A4
  · rw [va_up_ne _ _ (D 5 6 (by decide) (by decide) (by decide))]; exact A5
  · exact va_up_self _ _ _
  · rw [va_up_ne _ _ (D 7 6 (by decide) (by decide) (by decide))]; exact A7
  · rw [va_up_ne _ _ (D 8 6 (by decide) (by decide) (by decide))]; exact A8
theorem mo_u7 {g : hw_G} {w : hw_H} {r : Nat → Nat} {ty wo nx sz ft va cl lv hg em hn pl : Int32} {ch bg en ma lt nu hh kn bf : Nat → Int32} (f : Nat → Int32) (H : mo_I g w r ty wo nx sz ft va cl lv hg em hn pl ch bg en ma lt nu hh kn bf) : mo_I g (va_up w (r 7) (some (ar_b g 21 f))) r ty wo nx sz ft va cl lv hg em hn pl ch bg en ma lt nu hh f bf := by
  obtain ⟨D, M, A0, A1, A2, A3, A4, A5, A6, A7, A8⟩ := H
  refine ⟨D, ?_, ?_, ?_, ?_, ?_, ?_, ?_, ?_, ?_, ?_⟩
  · rw [va_up_ne _ _ (D 9 7 (by decide) (by decide) (by decide))]; exact M
  · rw [va_up_ne _ _ (D 0 7 (by decide) (by decide) (by decide))]; exact A0
  · rw [va_up_ne _ _ (D 1 7 (by decide) (by decide) (by decide))]; exact A1
  · rw [va_up_ne _ _ (D 2 7 (by decide) (by decide) (by decide))]; exact A2
  · rw [va_up_ne _ _ (D 3 7 (by decide) (by decide) (by decide))]; exact A3
  · rw [va_up_ne _ _ (D 4 7 (by decide) (by decide) (by decide))]; exact A4
  · rw [va_up_ne _ _ (D 5 7 (by decide) (by decide) (by decide))]; exact A5
  · rw [va_up_ne _ _ (D 6 7 (by decide) (by decide) (by decide))]; exact A6
  · exact va_up_self _ _ _
  · rw [va_up_ne _ _ (D 8 7 (by decide) (by decide) (by decide))]; exact A8
theorem mo_u8 {g : hw_G} {w : hw_H} {r : Nat → Nat} {ty wo nx sz ft va cl lv hg em hn pl : Int32} {ch bg en ma lt nu hh kn bf : Nat → Int32} (f : Nat → Int32) (H : mo_I g w r ty wo nx sz ft va cl lv hg em hn pl ch bg en ma lt nu hh kn bf) : mo_I g (va_up w (r 8) (some (ar_b g 21 f))) r ty wo nx sz ft va cl lv hg em hn pl ch bg en ma lt nu hh kn f := by
  obtain ⟨D, M, A0, A1, A2, A3, A4, A5, A6, A7, A8⟩ := H
  refine ⟨D, ?_, ?_, ?_, ?_, ?_, ?_, ?_, ?_, ?_, ?_⟩
  · rw [va_up_ne _ _ (D 9 8 (by decide) (by decide) (by decide))]; exact M
  · rw [va_up_ne _ _ (D 0 8 (by decide) (by decide) (by decide))]; exact A0
  · rw [va_up_ne _ _ (D 1 8 (by decide) (by decide) (by decide))]; exact A1
  · rw [va_up_ne _ _ (D 2 8 (by decide) (by decide) (by decide))]; exact A2
  · rw [va_up_ne _ _ (D 3 8 (by decide) (by decide) (by decide))]; exact A3
  · rw [va_up_ne _ _ (D 4 8 (by decide) (by decide) (by decide))]; exact A4
  · rw [va_up_ne _ _ (D 5 8 (by decide) (by decide) (by decide))]; exact A5
  · rw [va_up_ne _ _ (D 6 8 (by decide) (by decide) (by decide))]; exact A6
  · rw [va_up_ne _ _ (D 7 8 (by decide) (by decide) (by decide))]; exact A7
  · exact va_up_self _ _ _
theorem hw_rd {g : hw_G} {w : hw_H} {a n t i : Nat} {f : Nat → Int32} (h : w a = some (.inl (g.2.1 t, n, .inl f))) (hi : i < n) (hn : n < 2 ^ 31) : hw_ai g t w a (nI i) (f i) := ⟨n, f, h, vp_in_nI hi hn, by rw [nI_clamp (by omega)]⟩
theorem hw_rv {g : hw_G} {w : hw_H} {a n t i : Nat} {f : Nat → Int32} {x : Int32} (h : w a = some (.inl (g.2.1 t, n, .inl f))) (hi : i < n) (hn : n < 2 ^ 31) (e : f i = x) : hw_ai g t w a (nI i) x := e ▸ hw_rd h hi hn
theorem hw_rx {g : hw_G} {w : hw_H} {a n t : Nat} {f : Nat → Int32} {ix : Int32} (i : Nat) (h : w a = some (.inl (g.2.1 t, n, .inl f))) (e : ix = nI i) (hi : i < n) (hn : n < 2 ^ 31) : hw_ai g t w a ix (f i) := by rw [e]; exact hw_rd h hi hn
theorem hw_wr {g : hw_G} {w : hw_H} {a n t i : Nat} {f : Nat → Int32} {x : Int32} (h : w a = some (.inl (g.2.1 t, n, .inl f))) (hi : i < n) (hn : n < 2 ^ 31) : hw_as g t w a (nI i) x (va_up w a (some (.inl (g.2.1 t, n, .inl (upd f i x))))) := ⟨n, f, h, vp_in_nI hi hn, by rw [nI_clamp (by omega)]⟩
theorem hw_wx {g : hw_G} {w : hw_H} {a n t : Nat} {f : Nat → Int32} {x ix : Int32} (i : Nat) (h : w a = some (.inl (g.2.1 t, n, .inl f))) (e : ix = nI i) (hi : i < n) (hn : n < 2 ^ 31) : hw_as g t w a ix x (va_up w a (some (.inl (g.2.1 t, n, .inl (upd f i x))))) := by rw [e]; exact hw_wr h hi hn
/-- a literal -/
def mo_l (x : Int32) : Prop := ∃ j : Nat, j ≤ 20 ∧ x = nI j - 10
theorem mo_lp : ∀ j, j < 21 → (10 : Int32) + (nI j - 10) = nI j := by decide
theorem mo_lm : ∀ j, j < 21 → (10 : Int32) - (nI j - 10) = nI (20 - j) := by decide
theorem mo_l0 : mo_l 0 := ⟨10, by decide, by decide⟩
theorem mo_l_n {x : Int32} (h : mo_l x) : mo_l (-x) := by
  obtain ⟨j, hj, rfl⟩ := h
  have e : ∀ j, j < 21 → -(nI j - 10) = nI (20 - j) - 10 := by decide
  exact ⟨20 - j, by omega, e j (by omega)⟩
theorem mo_l_of {x : Int32} (h1 : ¬ x < -10) (h2 : ¬ 10 < x) : mo_l x := by
  rw [Int32.lt_iff_toInt_lt] at h1 h2
  have e1 : (-10 : Int32).toInt = -10 := by decide
  have e2 : (10 : Int32).toInt = 10 := by decide
  rw [e1] at h1
  rw [e2] at h2
  have hc : x.toInt = -10 ∨ x.toInt = -9 ∨ x.toInt = -8 ∨ x.toInt = -7 ∨ x.toInt = -6 ∨ x.toInt = -5 ∨ x.toInt = -4 ∨ x.toInt = -3 ∨ x.toInt = -2 ∨ x.toInt = -1 ∨ x.toInt = 0 ∨ x.toInt = 1 ∨ x.toInt = 2 ∨ x.toInt = 3 ∨ x.toInt = 4 ∨ x.toInt = 5 ∨ x.toInt = 6 ∨ x.toInt = 7 ∨ x.toInt = 8 ∨ x.toInt = 9 ∨ x.toInt = 10 := by omega
  refine ⟨(x.toInt + 10).toNat, by omega, ?_⟩
  apply Int32.toInt.inj
  rcases hc with h | h | h | h | h | h | h | h | h | h | h | h | h | h | h | h | h | h | h | h | h <;> rw [h] <;> decide
theorem mo_l_in {x : Int32} {v : Nat} (hv : v ≤ 10) (h : tx_in x (-(nI v)) (nI v) = true) : mo_l x := by
  simp only [tx_in, Bool.and_eq_true, Bool.not_eq_true', decide_eq_false_iff_not] at h
  have e : ∀ v, v < 11 → (-10 : Int32) ≤ -(nI v) ∧ nI v ≤ (10 : Int32) := by decide
  obtain ⟨e1, e2⟩ := e v (by omega)
  exact mo_l_of (fun z => h.1 (Int32.lt_of_lt_of_le z e1)) (fun z => h.2 (Int32.lt_of_le_of_lt e2 z))
def mo_a (ma lt : Nat → Int32) : Prop := (∀ i, i < 89 → ∃ j : Nat, j ≤ 6 ∧ ma i = nI j) ∧ ∀ i, i < 534 → mo_l (lt i)
/-- the words -/
def mo_W (n : Nat) (bg en : Nat → Int32) (L : Nat) : Prop := n ≤ 80 ∧ L ≤ 160 ∧ ∀ i, i < n → ∃ a b : Nat, a < b ∧ b ≤ L ∧ bg i = nI a ∧ en i = nI b
def mo_fl (ft : Int32) (n k L : Nat) (bg : Nat → Int32) : Int32 := if ft < 0 then (if n ≤ k then nI L else bg k) else ft
theorem mo_fl_p {ft : Int32} {n k L : Nat} {bg en : Nat → Int32} (h : mo_W n bg en L) : ¬ mo_fl ft n k L bg < 0 := by
  obtain ⟨h1, h2, h3⟩ := h
  unfold mo_fl
  split
  · split
    · exact nI_pos (by omega)
    · rename_i hk
      obtain ⟨a, b, h4, h5, h6, h7⟩ := h3 k (by omega)
      rw [h6]; exact nI_pos (by omega)
  · assumption
def mo_wv (ch : Nat → Int32) : Nat → Nat → Int32 → Int32
  | 0, _, v => v
  | d + 1, p, v => mo_wv ch d (p + 1) (if ch p = 45 then v else 10 * v + ch p - 48)
def mo_wo (ch : Nat → Int32) (a b : Nat) : Int32 := if ch a = 45 then -(mo_wv ch (b - a) a 0) else mo_wv ch (b - a) a 0
def mo_fr (ch : Nat → Int32) (a : Nat) : Nat := if ch a = 45 then a + 1 else a
def mo_dg (ch : Nat → Int32) : Nat → Nat → Bool → Bool
  | 0, _, b => b
  | d + 1, p, b => mo_dg ch d (p + 1) (b && tx_in (ch p) 48 57)
def mo_dn (ch : Nat → Int32) (a b : Nat) : Bool := mo_dg ch (b - mo_fr ch a) (mo_fr ch a) (tx_in (nI (b - mo_fr ch a)) 1 4)
def mo_nb (ch : Nat → Int32) (a b : Nat) (lo hi : Int32) : Bool := mo_dn ch a b && tx_in (mo_wo ch a b) lo hi
set_option maxHeartbeats 4000000 in
set_option maxRecDepth 100000 in
theorem ct_Mo_isGap (l : Launch) (g : hw_G) (w : hw_H) {r : Nat → Nat} {ty wo nx sz ft va cl lv hg em hn pl : Int32} {ch bg en ma lt nu hh kn bf : Nat → Int32} {p0 : Nat} (H : mo_I g w r ty wo nx sz ft va cl lv hg em hn pl ch bg en ma lt nu hh kn bf) (hp : p0 < 160) : hw_Mi l g ym_Mo_isGap mw_Mo_isGap (hw_R 1 0 0) [.ref (r 9), .int (nI p0)] w (fun r0 w' => r0 = hw_z (tx_bl (ch p0)) ∧ w' = w) := by
  refine hw_enteri (r := 0) rfl rfl (by simp [Value.category]) (Nat.le_of_ble_eq_true rfl) ?_
  intro p e s m args below meth c A X hr hlk hnm
  refine sg_Mo_isGap_0 X (fun _ _ _ _ _ _ h => h) (hw_rtz X hr hlk) ?_
  unfold vc_Mo_isGap_0
  have H0 := H
  obtain ⟨D, M, A0, A1, A2, A3, A4, A5, A6, A7, A8⟩ := H
  exact ⟨_, ⟨_, M, rfl⟩, _, hw_rd A0 hp (by decide), fun h => ⟨hw_00, Or.inr rfl, (by simp [tx_bl, hw_z, h]), rfl⟩, fun h => ⟨_, ⟨_, M, rfl⟩, _, hw_rd A0 hp (by decide), fun h2 => ⟨hw_00, Or.inl rfl, (by simp [tx_bl, hw_z, h, h2]), rfl⟩, fun h2 => ⟨hw_00, Or.inr rfl, (by simp [tx_bl, hw_z, h2]), rfl⟩⟩⟩
set_option maxHeartbeats 4000000 in
set_option maxRecDepth 100000 in
theorem ct_Mo_fail (l : Launch) (g : hw_G) (w : hw_H) {r : Nat → Nat} {ty ft va cl lv hg em hn pl : Int32} {ch bg en ma lt nu hh kn bf : Nat → Int32} {k n L : Nat} (H : mo_I g w r ty (nI n) (nI k) (nI L) ft va cl lv hg em hn pl ch bg en ma lt nu hh kn bf) (hW : mo_W n bg en L) (hk : k < 1000) : hw_Mv l g ym_Mo_fail mw_Mo_fail (hw_R 1 0 0) [.ref (r 9)] w (fun w' => mo_I g w' r ty (nI n) (nI k) (nI L) (mo_fl ft n k L bg) va cl lv hg em hn pl ch bg en ma lt nu hh kn bf ∧ mo_K w w' r) := by
  refine hw_enterv (r := 0) rfl rfl (by simp [Value.category]) (Nat.le_of_ble_eq_true rfl) ?_
  intro p e s m args below meth c A X hr hlk hnm
  refine sg_Mo_fail_0 X (fun _ _ _ _ _ _ h => h) (hw_rtv X hr hlk) ?_
  unfold vc_Mo_fail_0
  have H0 := H
  obtain ⟨D, M, A0, A1, A2, A3, A4, A5, A6, A7, A8⟩ := H
  obtain ⟨hn0, hL0, hw0⟩ := hW
  have U := fun z : Int32 => mo_u9 ty (nI n) (nI k) (nI L) z va cl lv hg em hn pl H0
  refine ⟨_, ⟨_, M, rfl⟩, fun h1 => ⟨_, ⟨_, M, rfl⟩, _, ⟨_, M, rfl⟩, fun h2 => ⟨_, ⟨_, M, rfl⟩, _, ⟨_, M, Nat.le_of_ble_eq_true rfl, rfl⟩, hw_00, ?_, mo_K_u mo_K_r (by decide)⟩, fun h2 => ⟨_, ⟨_, M, rfl⟩, _, ⟨_, M, rfl⟩, _, hw_rd A1 ?_ (by decide), _, ⟨_, M, Nat.le_of_ble_eq_true rfl, rfl⟩, hw_00, ?_, mo_K_u mo_K_r (by decide)⟩⟩, fun h1 => ⟨_, ⟨_, M, rfl⟩, _, ⟨_, M, Nat.le_of_ble_eq_true rfl, rfl⟩, hw_00, ?_, mo_K_u mo_K_r (by decide)⟩⟩
  · rw [nI_leI (by omega) (by omega)] at h2
    unfold mo_fl; rw [if_pos h1, if_pos h2]; exact U _
  · rw [nI_leI (by omega) (by omega)] at h2
    omega
  · rw [nI_leI (by omega) (by omega)] at h2
    unfold mo_fl; rw [if_pos h1, if_neg h2]; exact U _
  · unfold mo_fl; rw [if_neg h1]; exact U _
set_option maxHeartbeats 4000000 in
set_option maxRecDepth 100000 in
theorem ct_Mo_worth (l : Launch) (g : hw_G) (w : hw_H) {r : Nat → Nat} {ty sz ft va cl lv hg em hn pl : Int32} {ch bg en ma lt nu hh kn bf : Nat → Int32} {k n a b : Nat} (H : mo_I g w r ty (nI n) (nI k) sz ft va cl lv hg em hn pl ch bg en ma lt nu hh kn bf) (hn : n ≤ 80) (hk : k < n) (ha : bg k = nI a) (hb : en k = nI b) (hab : a < b) (hbL : b ≤ 160) : hw_Mi l g ym_Mo_worth mw_Mo_worth (hw_R 1 0 0) [.ref (r 9)] w (fun r0 w' => r0 = mo_wo ch a b ∧ w' = w) := by
  refine hw_enteri (r := 3) rfl rfl (by simp [Value.category]) (Nat.le_of_ble_eq_true rfl) ?_
  intro p e s m args below meth c A X hr hlk hnm
  refine sg_Mo_worth_0 X (fun _ _ _ _ _ _ h => h) (hw_rti X hr hlk) ?_
  unfold vc_Mo_worth_0
  have H0 := H
  obtain ⟨D, M, A0, A1, A2, A3, A4, A5, A6, A7, A8⟩ := H
  generalize hV : mo_wv ch (b - a) a 0 = V
  have L1 : ∀ (d p0 : Nat) (v : Int32), p0 + d = b → a ≤ p0 → mo_wv ch d p0 v = V → hw_Ji p l e (hw_R 1 0 0) s m args below meth c 4 g A (fun r0 w' => r0 = mo_wo ch a b ∧ w' = w) 0 0 14 [some (.ref (r 9)), some (.int (nI a)), some (.int v), some (.int (nI p0))] [] w := by
    intro d
    induction d with
    | zero =>
      intro p0 v hi hap hv
      have hv : v = V := hv
      subst hv
      refine sg_Mo_worth_14 X (fun _ _ _ _ _ _ h => h) (hw_rti X hr hlk) ?_
      unfold vc_Mo_worth_14
      refine ⟨_, ⟨_, M, rfl⟩, _, ⟨_, M, rfl⟩, _, hw_rv A2 (by omega) (by decide) hb, fun _ => ⟨_, ⟨_, M, rfl⟩, _, hw_rd A0 (by omega) (by decide), fun h => ⟨hw_00, ?_, rfl⟩, fun h => ⟨hw_00, ?_, rfl⟩⟩, fun h => absurd (nI_le (by omega) (by omega)) h⟩
      · unfold mo_wo; rw [if_neg h, hV]
      · unfold mo_wo; rw [if_pos h, hV]
    | succ d ih =>
      intro p0 v hi hap hv
      rw [mo_wv.eq_2] at hv
      refine sg_Mo_worth_14 X (fun _ _ _ _ _ _ h => h) (hw_rti X hr hlk) ?_
      unfold vc_Mo_worth_14
      refine ⟨_, ⟨_, M, rfl⟩, _, ⟨_, M, rfl⟩, _, hw_rv A2 (by omega) (by decide) hb, fun h => absurd h (nI_ge (by omega) (by omega)), fun _ => ⟨_, ⟨_, M, rfl⟩, _, hw_rd A0 (by omega) (by decide), fun h => ⟨_, ⟨_, M, rfl⟩, _, hw_rd A0 (by omega) (by decide), fun y hy => ?_⟩, fun h => ?_⟩⟩
      · rw [if_neg h] at hv
        subst hy
        rw [nI_1]
        exact ih (p0 + 1) _ (by omega) (by omega) hv
      · rw [if_pos h] at hv
        rw [nI_1]
        exact ih (p0 + 1) _ (by omega) (by omega) hv
  exact ⟨_, ⟨_, M, rfl⟩, _, ⟨_, M, rfl⟩, _, hw_rv A1 (by omega) (by decide) ha, L1 (b - a) a 0 (by omega) (Nat.le_refl _) hV⟩
set_option maxHeartbeats 4000000 in
set_option maxRecDepth 100000 in
theorem ct_Mo_isNumber (l : Launch) (g : hw_G) (w : hw_H) {r : Nat → Nat} {ty sz ft va cl lv hg em hn pl : Int32} {ch bg en ma lt nu hh kn bf : Nat → Int32} {k n a b : Nat} {lo up : Int32} (H : mo_I g w r ty (nI n) (nI k) sz ft va cl lv hg em hn pl ch bg en ma lt nu hh kn bf) (hn : n ≤ 80) (hk : k < n) (ha : bg k = nI a) (hb : en k = nI b) (hab : a < b) (hbL : b ≤ 160) : hw_Mi l g ym_Mo_isNumber mw_Mo_isNumber (hw_R 2 0 0) [.ref (r 9), .int lo, .int up] w (fun r0 w' => r0 = hw_z (mo_nb ch a b lo up) ∧ w' = w) := by
  refine hw_enteri (r := 4) rfl rfl (by simp [Value.category]) (Nat.le_of_ble_eq_true rfl) ?_
  intro p e s m args below meth c A X hr hlk hnm
  refine sg_Mo_isNumber_0 X (fun _ _ _ _ _ _ h => h) (hw_rtz X hr hlk) ?_
  unfold vc_Mo_isNumber_0
  have H0 := H
  obtain ⟨D, M, A0, A1, A2, A3, A4, A5, A6, A7, A8⟩ := H
  generalize hV : mo_dn ch a b = V
  have L1 : ∀ (d p0 : Nat) (bb : Bool) (x4 : Int32), p0 + d = b → mo_dg ch d p0 bb = V → hw_Ji p l e (hw_R 2 0 0) s m args below meth c 7 g A (fun r0 w' => r0 = hw_z (mo_nb ch a b lo up) ∧ w' = w) 0 0 66 [some (.ref (r 9)), some (.int lo), some (.int up), some (.int (nI a)), some (.int x4), some (.int (hw_z bb)), some (.int (nI p0))] [] w := by
    intro d
    induction d with
    | zero =>
      intro p0 bb x4 hi hv
      have hv : bb = V := hv
      subst hv
      refine sg_Mo_isNumber_66 X (fun _ _ _ _ _ _ h => h) (hw_rtz X hr hlk) ?_
      unfold vc_Mo_isNumber_66
      refine ⟨_, ⟨_, M, rfl⟩, _, ⟨_, M, rfl⟩, _, hw_rv A2 (by omega) (by decide) hb, fun _ => ⟨fun h => ⟨hw_00, Or.inl rfl, ?_, rfl⟩, fun h => ⟨hw_o_of M rfl rfl, hw_ci_0 (by decide) (by decide) (ct_Mo_worth l g w H0 hn hk ha hb hab hbL) (Nat.zero_le _) (Nat.zero_le _) ?_⟩⟩, fun h => absurd (nI_le (by omega) (by omega)) h⟩
      · unfold mo_nb; rw [hV, (hw_z_eq _).mp h]; rfl
      rintro r1 w1 ⟨rfl, rfl⟩
      refine hw_ci_0 (by decide) (by decide) (ct_Mo_in l g w1) (Nat.zero_le _) (Nat.zero_le _) ?_
      rintro r2 w2 ⟨hr2, rfl⟩
      have hbb := (hw_z_ne _).mp h
      refine ⟨fun h2 => ⟨hw_00, Or.inl rfl, ?_, rfl⟩, fun h2 => ⟨hw_00, Or.inr rfl, ?_, rfl⟩⟩
      · rw [hr2] at h2
        unfold mo_nb tx_in; rw [hV, (hw_z_eq _).mp h2, hbb]; rfl
      · rw [hr2] at h2
        unfold mo_nb tx_in; rw [hV, (hw_z_ne _).mp h2, hbb]; rfl
    | succ d ih =>
      intro p0 bb x4 hi hv
      rw [mo_dg.eq_2] at hv
      refine sg_Mo_isNumber_66 X (fun _ _ _ _ _ _ h => h) (hw_rtz X hr hlk) ?_
      unfold vc_Mo_isNumber_66
      refine ⟨_, ⟨_, M, rfl⟩, _, ⟨_, M, rfl⟩, _, hw_rv A2 (by omega) (by decide) hb, fun h => absurd h (nI_ge (by omega) (by omega)), fun _ => ⟨fun h => ?_, fun h => ⟨_, ⟨_, M, rfl⟩, _, hw_rd A0 (by omega) (by decide), hw_ci_0 (by decide) (by decide) (ct_Mo_in l g w) (Nat.zero_le _) (Nat.zero_le _) ?_⟩⟩⟩
      · have hb0 := (hw_z_eq _).mp h
        rw [hb0] at hv
        rw [nI_1]
        exact ih (p0 + 1) false _ (by omega) hv
      rintro r2 w2 ⟨hr2, rfl⟩
      have hb0 := (hw_z_ne _).mp h
      rw [hb0] at hv
      refine ⟨fun h2 => ?_, fun h2 => ?_⟩
      · rw [hr2] at h2
        have h3 : tx_in (ch p0) 48 57 = false := (hw_z_eq _).mp h2
        rw [h3] at hv
        rw [nI_1]
        exact ih (p0 + 1) false _ (by omega) hv
      · rw [hr2] at h2
        have h3 : tx_in (ch p0) 48 57 = true := (hw_z_ne _).mp h2
        rw [h3] at hv
        rw [nI_1]
        exact ih (p0 + 1) true _ (by omega) hv
  refine ⟨_, ⟨_, M, rfl⟩, _, ⟨_, M, rfl⟩, fun _ => ⟨_, ⟨_, M, rfl⟩, _, ⟨_, M, rfl⟩, _, hw_rv A1 (by omega) (by decide) ha, _, ⟨_, M, rfl⟩, _, hw_rd A0 (by omega) (by decide), fun h => ⟨_, ⟨_, M, rfl⟩, _, ⟨_, M, rfl⟩, _, hw_rv A2 (by omega) (by decide) hb, hw_ci_0 (by decide) (by decide) (ct_Mo_in l g w) (Nat.zero_le _) (Nat.zero_le _) ?_⟩, fun h y hy => ⟨_, ⟨_, M, rfl⟩, _, ⟨_, M, rfl⟩, _, hw_rv A2 (by omega) (by decide) hb, hw_ci_0 (by decide) (by decide) (ct_Mo_in l g w) (Nat.zero_le _) (Nat.zero_le _) ?_⟩⟩, fun h => absurd (nI_lt hk (by omega)) h⟩
  · rintro r2 w2 ⟨rfl, rfl⟩
    rw [pk_sub (by omega)]
    refine L1 (b - a) a _ _ (by omega) ?_
    rw [← hV]; unfold mo_dn mo_fr; rw [if_neg h]; rfl
  · rintro r2 w2 ⟨rfl, rfl⟩
    rw [nI_1] at hy
    subst hy
    rw [pk_sub (by omega)]
    refine L1 (b - (a + 1)) (a + 1) _ _ (by omega) ?_
    rw [← hV]; unfold mo_dn mo_fr; rw [if_pos h]; rfl
def mo_nk (ch bg en : Nat → Int32) (n k : Nat) (lo up : Int32) : Bool := decide (k < n) && mo_nb ch (bg k).toNatClampNeg (en k).toNatClampNeg lo up
def mo_wk (ch bg en : Nat → Int32) (k : Nat) : Int32 := mo_wo ch (bg k).toNatClampNeg (en k).toNatClampNeg
theorem mo_nk_n {ch bg en : Nat → Int32} {n k : Nat} {lo up : Int32} (h : ¬ k < n) : mo_nk ch bg en n k lo up = false := by simp [mo_nk, h]
theorem mo_nk_y {ch bg en : Nat → Int32} {n k a b : Nat} {lo up : Int32} (h : k < n) (ha : bg k = nI a) (hb : en k = nI b) (h1 : a < 2 ^ 31) (h2 : b < 2 ^ 31) : mo_nk ch bg en n k lo up = mo_nb ch a b lo up := by
  unfold mo_nk; rw [ha, hb, nI_clamp h1, nI_clamp h2]; simp [h]
theorem mo_wk_y {ch bg en : Nat → Int32} {k a b : Nat} (ha : bg k = nI a) (hb : en k = nI b) (h1 : a < 2 ^ 31) (h2 : b < 2 ^ 31) : mo_wk ch bg en k = mo_wo ch a b := by
  unfold mo_wk; rw [ha, hb, nI_clamp h1, nI_clamp h2]
theorem mo_nk_in {ch bg en : Nat → Int32} {n k : Nat} {lo up : Int32} (h : mo_nk ch bg en n k lo up = true) : k < n ∧ tx_in (mo_wk ch bg en k) lo up = true := by
  unfold mo_nk mo_nb at h
  simp only [Bool.and_eq_true, decide_eq_true_eq] at h
  exact ⟨h.1, h.2.2⟩
theorem ct_Mo_isNumberN (l : Launch) (g : hw_G) (w : hw_H) {r : Nat → Nat} {ty ft va cl lv hg em hn pl : Int32} {ch bg en ma lt nu hh kn bf : Nat → Int32} {k n L : Nat} {lo up : Int32} (H : mo_I g w r ty (nI n) (nI k) (nI L) ft va cl lv hg em hn pl ch bg en ma lt nu hh kn bf) (hW : mo_W n bg en L) (hk : k < 1000) : hw_Mi l g ym_Mo_isNumber mw_Mo_isNumber (hw_R 2 0 0) [.ref (r 9), .int lo, .int up] w (fun r0 w' => r0 = hw_z (mo_nk ch bg en n k lo up) ∧ w' = w) := by
  have hQ := hW
  obtain ⟨hn0, hL0, hw0⟩ := hW
  by_cases hkn : k < n
  · obtain ⟨a, b, h1, h2, h3, h4⟩ := hw0 k hkn
    rw [mo_nk_y hkn h3 h4 (by omega) (by omega)]
    exact ct_Mo_isNumber l g w H hn0 hkn h3 h4 h1 (by omega)
  refine hw_enteri (r := 4) rfl rfl (by simp [Value.category]) (Nat.le_of_ble_eq_true rfl) ?_
  intro p e s m args below meth c A X hr hlk hnm
  refine sg_Mo_isNumber_0 X (fun _ _ _ _ _ _ h => h) (hw_rtz X hr hlk) ?_
  unfold vc_Mo_isNumber_0
  have M := H.2.1
  exact ⟨_, ⟨_, M, rfl⟩, _, ⟨_, M, rfl⟩, fun h => absurd h (nI_nlt (by omega) (by omega)), fun _ => ⟨hw_00, Or.inl rfl, (by rw [mo_nk_n hkn]; rfl), rfl⟩⟩
set_option maxHeartbeats 4000000 in
set_option maxRecDepth 100000 in
theorem ct_Mo_take (l : Launch) (g : hw_G) (w : hw_H) {r : Nat → Nat} {ty ft va cl lv hg em hn pl : Int32} {ch bg en ma lt nu hh kn bf : Nat → Int32} {k n L : Nat} {lo up : Int32} (H : mo_I g w r ty (nI n) (nI k) (nI L) ft va cl lv hg em hn pl ch bg en ma lt nu hh kn bf) (hW : mo_W n bg en L) (hk : k < 1000) : hw_Mi l g ym_Mo_take mw_Mo_take (hw_R 3 0 0) [.ref (r 9), .int lo, .int up] w (fun r0 w' => mo_K w w' r ∧ ((¬ ft < 0 ∧ r0 = 0 ∧ mo_I g w' r ty (nI n) (nI k) (nI L) ft va cl lv hg em hn pl ch bg en ma lt nu hh kn bf) ∨ (ft < 0 ∧ mo_nk ch bg en n k lo up = true ∧ r0 = mo_wk ch bg en k ∧ mo_I g w' r ty (nI n) (nI (k + 1)) (nI L) ft va cl lv hg em hn pl ch bg en ma lt nu hh kn bf) ∨ (ft < 0 ∧ mo_nk ch bg en n k lo up = false ∧ r0 = 0 ∧ mo_I g w' r ty (nI n) (nI k) (nI L) (mo_fl ft n k L bg) va cl lv hg em hn pl ch bg en ma lt nu hh kn bf))) := by
  refine hw_enteri (r := 1) rfl rfl (by simp [Value.category]) (Nat.le_of_ble_eq_true rfl) ?_
  intro p e s m args below meth c A X hr hlk hnm
  refine sg_Mo_take_0 X (fun _ _ _ _ _ _ h => h) (hw_rti X hr hlk) ?_
  unfold vc_Mo_take_0
  have H0 := H
  obtain ⟨D, M, A0, A1, A2, A3, A4, A5, A6, A7, A8⟩ := H
  have hQ := hW
  obtain ⟨hn0, hL0, hw0⟩ := hW
  refine ⟨_, ⟨_, M, rfl⟩, fun h1 => ⟨hw_o_of M rfl rfl, hw_ci_0 (by decide) (by decide) (ct_Mo_isNumberN l g w H0 hQ hk) (Nat.zero_le _) (Nat.zero_le _) ?_⟩, fun h1 => ⟨hw_00, mo_K_r, Or.inl ⟨h1, rfl, H0⟩⟩⟩
  rintro r1 w1 ⟨hr1, rfl⟩
  refine ⟨fun h2 => ?_, fun h2 => ⟨hw_o_of M rfl rfl, hw_cv_0 (by decide) (by decide) (ct_Mo_fail l g w1 H0 hQ hk) (Nat.zero_le _) (Nat.zero_le _) ?_⟩⟩
  · rw [hr1] at h2
    have h3 := (hw_z_ne _).mp h2
    obtain ⟨hkn, h4⟩ := mo_nk_in h3
    obtain ⟨a, b, a1, a2, a3, a4⟩ := hw0 k hkn
    refine ⟨hw_o_of M rfl rfl, hw_ci_0 (by decide) (by decide) (ct_Mo_worth l g w1 H0 hn0 hkn a3 a4 a1 (by omega)) (Nat.zero_le _) (Nat.zero_le _) ?_⟩
    rintro r2 w2 ⟨rfl, rfl⟩
    refine ⟨_, ⟨_, M, rfl⟩, _, ⟨_, M, Nat.le_of_ble_eq_true rfl, rfl⟩, hw_00, mo_K_u mo_K_r (by decide), Or.inr (Or.inl ⟨h1, h3, (mo_wk_y a3 a4 (by omega) (by omega)).symm, ?_⟩)⟩
    rw [nI_1]
    exact mo_u9 ty (nI n) (nI (k + 1)) (nI L) ft va cl lv hg em hn pl H0
  · rw [hr1] at h2
    rintro w2 ⟨h3, h4⟩
    exact ⟨hw_00, h4, Or.inr (Or.inr ⟨h1, (hw_z_eq _).mp h2, rfl, h3⟩)⟩
