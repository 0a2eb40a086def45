/-- the kind of a cell -/
def hw_kd : va_E → Nat
  | .inr (k, _) => k
  | .inl (_, n, _) => 100 + n
theorem hw_nk {w : hw_H} {a b : Nat} {e0 e1 : va_E} (h1 : w a = some e0) (h2 : w b = some e1) (h : Nat.beq (hw_kd e0) (hw_kd e1) = false) : a ≠ b := by
  rintro rfl
  rw [h1] at h2
  cases h2
  rw [Nat.beq_refl] at h
  cases h
theorem hw_kw {w : hw_H} {a y : Nat} {e0 e1 : va_E} (e : Option va_E) (ha : w a = some e0) (hy : w y = some e1) (h : Nat.beq (hw_kd e1) (hw_kd e0) = false) : va_up w a e y = some e1 := by
  rw [va_up_ne _ _ (hw_nk hy ha h)]; exact hy
def sx_kb (k : Nat) : Bool := !(Nat.beq k 2) && (!(Nat.beq k 2172) && (!(Nat.beq k 110) && !(Nat.beq k 111)))
theorem hw_nb {a b : Nat} (h : (!Nat.beq a b) = true) : a ≠ b := by
  rintro rfl
  rw [Nat.beq_refl] at h
  cases h
theorem sx_kb_no {e : va_E} (h : sx_kb (hw_kd e) = true) : sx_no e := by
  unfold sx_kb at h
  simp only [Bool.and_eq_true] at h
  obtain ⟨h1, h2, h3, h4⟩ := h
  have h1 := hw_nb h1
  have h2 := hw_nb h2
  have h3 := hw_nb h3
  have h4 := hw_nb h4
  match e, h1, h2, h3, h4 with
  | .inr (k, _), h1, _, _, _ => exact h1
  | .inl (_, n, _), _, h2, h3, h4 =>
    have h2 : 100 + n ≠ 2172 := h2
    have h3 : 100 + n ≠ 110 := h3
    have h4 : 100 + n ≠ 111 := h4
    exact ⟨by omega, by omega, by omega⟩
theorem sx_kq {g : hw_G} {w w' : hw_H} {q : Nat → Nat} {t : sx_T} {y : Nat} {e : va_E} (hI : sx_I g w q t) (hk : sx_K w w' q) (hy : w y = some e) (hn : sx_kb (hw_kd e) = true) : w' y = some e := sx_kp hI hk hy (sx_kb_no hn)
theorem sx_I_k {g : hw_G} {w w' : hw_H} {q : Nat → Nat} {t : sx_T} (h : sx_I g w q t) (hk : ∀ i, i < 6 → w' (q i) = w (q i)) : sx_I g w' q t := by
  obtain ⟨D, h0, h1, h2, h3, h4, h5⟩ := h
  exact ⟨D, (hk 0 (by decide)).trans h0, (hk 1 (by decide)).trans h1, (hk 2 (by decide)).trans h2, (hk 3 (by decide)).trans h3, (hk 4 (by decide)).trans h4, (hk 5 (by decide)).trans h5⟩
theorem sx_I_u {g : hw_G} {w : hw_H} {q : Nat → Nat} {t : sx_T} {a : Nat} {e0 : va_E} (e : Option va_E) (h : sx_I g w q t) (ha : w a = some e0) (hn : sx_kb (hw_kd e0) = true) : sx_I g (va_up w a e) q t := sx_I_k h (fun i hi => va_up_ne _ _ (sx_ne h ha (sx_kb_no hn) i hi).symm)
theorem sx_sm {g : hw_G} {w : hw_H} {q : Nat → Nat} {t : sx_T} (h : sx_I g w q t) (i : Nat) (hi : i < 6) : w (q i) ≠ none := by
  obtain ⟨D, h0, h1, h2, h3, h4, h5⟩ := h
  have hc : i = 0 ∨ i = 1 ∨ i = 2 ∨ i = 3 ∨ i = 4 ∨ i = 5 := by omega
  rcases hc with rfl | rfl | rfl | rfl | rfl | rfl
  · exact hw_sn h0
  · exact hw_sn h1
  · exact hw_sn h2
  · exact hw_sn h3
  · exact hw_sn h4
  · exact hw_sn h5
theorem vp_in_lt {n N : Nat} {y : Int32} (hn : n ≤ N) (hN : N < 2 ^ 31) (h0 : ¬ y < 0) (h1 : y < nI n) : vp_in y N := by
  obtain ⟨j, hj, rfl⟩ := nI_of h0
  rw [nI_ltI hj (by omega)] at h1
  exact vp_in_nI (by omega) hN
/-- the clauses' cells are kept -/
def cl_F (w w' : hw_H) : Prop := ∀ (y : Nat) (e : va_E), w y = some e → hw_kd e = 5 ∨ hw_kd e = 106 → w' y = some e
theorem cl_ok_f {g : hw_G} {w w' : hw_H} {kc : Nat} {num : Int32} {ls : List Int32} (hk : cl_F w w') (h : cl_ok g w kc num ls) : cl_ok g w' kc num ls := by
  obtain ⟨la, f, h1, h2, h3⟩ := h
  exact ⟨la, f, hk _ _ h1 (Or.inl rfl), hk _ _ h2 (Or.inr rfl), h3⟩
theorem cl_s_f {g : hw_G} {w w' : hw_H} {kc : Nat} (hk : cl_F w w') (h : cl_s g w kc) : cl_s g w' kc := by
  obtain ⟨num, ls, h⟩ := h
  exact ⟨num, ls, cl_ok_f hk h⟩
theorem pr_ar_f {g : hw_G} {w w' : hw_H} {h : Nat → Option Nat} {ps : Nat} (hk : cl_F w w') (H : pr_ar g w h ps) : pr_ar g w' h ps := fun i hi => by
  obtain ⟨kc, h1, h2⟩ := H i hi
  exact ⟨kc, h1, cl_s_f hk h2⟩
theorem fg_ar_f {g : hw_G} {w w' : hw_H} {h : Nat → Option Nat} {cs : fo_C} (hk : cl_F w w') (H : fg_ar g w h cs) : fg_ar g w' h cs := fun i x hx => by
  obtain ⟨kc, h1, h2⟩ := H i x hx
  exact ⟨kc, h1, cl_ok_f hk h2⟩
theorem cl_F_u {w : hw_H} {a : Nat} {e0 : va_E} {e : Option va_E} (ha : w a = some e0) (h5 : Nat.beq (hw_kd e0) 5 = false) (h6 : Nat.beq (hw_kd e0) 106 = false) : cl_F w (va_up w a e) := fun y e1 hy hc => by
  refine (va_up_ne _ _ ?_).trans hy
  rintro rfl
  rw [ha] at hy
  cases hy
  rcases hc with hc | hc
  · rw [hc] at h5; cases h5
  · rw [hc] at h6; cases h6
theorem cl_F_t {w w1 w2 : hw_H} (h1 : cl_F w w1) (h2 : cl_F w1 w2) : cl_F w w2 := fun y e hy hc => h2 y e (h1 y e hy hc) hc
theorem cl_F_s {g : hw_G} {w w' : hw_H} {q : Nat → Nat} {t : sx_T} (hI : sx_I g w q t) (hk : sx_K w w' q) : cl_F w w' := fun y e hy hc => by
  refine sx_kq hI hk hy ?_
  rcases hc with hc | hc
  · rw [hc]; rfl
  · rw [hc]; rfl
/-- the court -/
def co_I (g : hw_G) (w : hw_H) (Xc T TC P PA : Nat) (q : Nat → Nat) (len : Nat) (f : Nat → Int32) (F v : Nat) (cs : fo_C) (cnt : Int32) (t : sx_T) : Prop := w Xc = some (.inr (4, [.ref T, .ref P, .ref (q 0), .ref F])) ∧ (len ≤ 160 ∧ w TC = some (.inl (g.2.1 1, 160, .inl f))) ∧ (∃ sk st en nu : Int32, w T = some (tx_o TC (nI len) sk st en nu)) ∧ (∃ (ps : Nat) (ph pe : Int32) (h : Nat → Option Nat), w P = some (pr_o PA ps ph pe) ∧ ps ≤ 40 ∧ hw_b pe ∧ w PA = some (ar_q g 40 h) ∧ pr_ar g w h ps) ∧ (sx_I g w q t ∧ sx_ok t) ∧ ∃ (fa : Nat) (hf : Nat → Option Nat), w F = some (fg_o (nI v) fa cs.length cnt) ∧ v ≤ 10 ∧ cs.length ≤ 24 ∧ w fa = some (ar_q g 24 hf) ∧ fg_ar g w hf cs
def co_K (w w' : hw_H) (Xc T TC P PA : Nat) (q : Nat → Nat) (F : Nat) : Prop := ∀ y, w y ≠ none → y ≠ Xc → y ≠ T → y ≠ TC → y ≠ P → y ≠ PA → (∀ i, i < 6 → y ≠ q i) → y ≠ F → w' y = w y
section
variable {g : hw_G} {w w' : hw_H} {Xc T TC P PA : Nat} {q : Nat → Nat} {len : Nat} {f : Nat → Int32} {F v : Nat} {cs : fo_C} {cnt : Int32} {t t' : sx_T}
theorem co_K_r : co_K w w Xc T TC P PA q F := fun _ _ _ _ _ _ _ _ _ => rfl
theorem co_K_s (h : sx_K w w' q) : co_K w w' Xc T TC P PA q F := fun y hy _ _ _ _ _ hq _ => h y hy hq
theorem co_I_s (H : co_I g w Xc T TC P PA q len f F v cs cnt t) (hS' : sx_I g w' q t') (hok' : sx_ok t') (hK : sx_K w w' q) : co_I g w' Xc T TC P PA q len f F v cs cnt t' := by
  obtain ⟨hX, ⟨hl, hC⟩, ⟨sk, st, en, nu, hT⟩, ⟨ps, ph, pe, h, hP, hps, hpe, hPA, hpr⟩, ⟨hS, hok⟩, fa, hf, hF, hv, hn, hfa, hcs⟩ := H
  have hc := cl_F_s hS hK
  exact ⟨sx_kq hS hK hX rfl, ⟨hl, sx_kq hS hK hC rfl⟩, ⟨sk, st, en, nu, sx_kq hS hK hT rfl⟩, ⟨ps, ph, pe, h, sx_kq hS hK hP rfl, hps, hpe, sx_kq hS hK hPA rfl, pr_ar_f hc hpr⟩, ⟨hS', hok'⟩, fa, hf, sx_kq hS hK hF rfl, hv, hn, sx_kq hS hK hfa rfl, fg_ar_f hc hcs⟩
theorem co_I_T {len' : Nat} {f' : Nat → Int32} {sk st en nu : Int32} (H : co_I g w Xc T TC P PA q len f F v cs cnt t) (h1 : w' T = some (tx_o TC (nI len') sk st en nu)) (h2 : w' TC = some (.inl (g.2.1 1, 160, .inl f'))) (hl' : len' ≤ 160) (hK : ∀ y, w y ≠ none → y ≠ T → y ≠ TC → w' y = w y) : co_I g w' Xc T TC P PA q len' f' F v cs cnt t := by
  obtain ⟨hX, ⟨hl, hC⟩, ⟨sk0, st0, en0, nu0, hT⟩, ⟨ps, ph, pe, h, hP, hps, hpe, hPA, hpr⟩, ⟨hS, hok⟩, fa, hf, hF, hv, hn, hfa, hcs⟩ := H
  have kp : ∀ {y : Nat} {e : va_E}, w y = some e → Nat.beq (hw_kd e) 0 = false → Nat.beq (hw_kd e) 260 = false → w' y = some e := fun hy h0 h1 => (hK _ (hw_sn hy) (hw_nk hy hT h0) (hw_nk hy hC h1)).trans hy
  have hc : cl_F w w' := fun y e hy hc => by
    rcases hc with hc | hc
    · exact kp hy (by rw [hc]; rfl) (by rw [hc]; rfl)
    · exact kp hy (by rw [hc]; rfl) (by rw [hc]; rfl)
  have hS1 : sx_I g w' q t := sx_I_k hS (fun i hi => hK _ (sx_sm hS i hi) (sx_ne hS hT (sx_kb_no rfl) i hi).symm (sx_ne hS hC (sx_kb_no rfl) i hi).symm)
  exact ⟨kp hX rfl rfl, ⟨hl', h2⟩, ⟨sk, st, en, nu, h1⟩, ⟨ps, ph, pe, h, kp hP rfl rfl, hps, hpe, kp hPA rfl rfl, pr_ar_f hc hpr⟩, ⟨hS1, hok⟩, fa, hf, kp hF rfl rfl, hv, hn, kp hfa rfl rfl, fg_ar_f hc hcs⟩
theorem co_I_F {cnt' : Int32} {fa' : Nat} (H : co_I g w Xc T TC P PA q len f F v cs cnt t) (hF' : w F = some (fg_o (nI v) fa' cs.length cnt)) : co_I g (va_up w F (some (fg_o (nI v) fa' cs.length cnt'))) Xc T TC P PA q len f F v cs cnt' t := by
  obtain ⟨hX, ⟨hl, hC⟩, ⟨sk0, st0, en0, nu0, hT⟩, ⟨ps, ph, pe, h, hP, hps, hpe, hPA, hpr⟩, ⟨hS, hok⟩, fa, hf, hF, hv, hn, hfa, hcs⟩ := H
  have e9 : fa = fa' := by
    rw [hF] at hF'
    cases hF'
    rfl
  subst e9
  have hc : ∀ e : Option va_E, cl_F w (va_up w F e) := fun e => cl_F_u hF rfl rfl
  exact ⟨hw_kw _ hF hX rfl, ⟨hl, hw_kw _ hF hC rfl⟩, ⟨sk0, st0, en0, nu0, hw_kw _ hF hT rfl⟩, ⟨ps, ph, pe, h, hw_kw _ hF hP rfl, hps, hpe, hw_kw _ hF hPA rfl, pr_ar_f (hc _) hpr⟩, ⟨sx_I_u _ hS hF rfl, hok⟩, fa, hf, va_up_self _ _ _, hv, hn, hw_kw _ hF hfa rfl, fg_ar_f (hc _) hcs⟩
theorem co_I_P {ps' : Nat} {ph' pe' : Int32} {h' : Nat → Option Nat} (H : co_I g w Xc T TC P PA q len f F v cs cnt t) (h1 : w' P = some (pr_o PA ps' ph' pe')) (h2 : w' PA = some (ar_q g 40 h')) (h3 : ps' ≤ 40) (h4 : hw_b pe') (h5 : pr_ar g w' h' ps') (hK : ∀ y, w y ≠ none → y ≠ P → y ≠ PA → w' y = w y) : co_I g w' Xc T TC P PA q len f F v cs cnt t := by
  obtain ⟨hX, ⟨hl, hC⟩, ⟨sk0, st0, en0, nu0, hT⟩, ⟨ps, ph, pe, h, hP, hps, hpe, hPA, hpr⟩, ⟨hS, hok⟩, fa, hf, hF, hv, hn, hfa, hcs⟩ := H
  have kp : ∀ {y : Nat} {e : va_E}, w y = some e → Nat.beq (hw_kd e) 1 = false → Nat.beq (hw_kd e) 140 = false → w' y = some e := fun hy h0 h1 => (hK _ (hw_sn hy) (hw_nk hy hP h0) (hw_nk hy hPA h1)).trans hy
  have hc : cl_F w w' := fun y e hy hc => by
    rcases hc with hc | hc
    · exact kp hy (by rw [hc]; rfl) (by rw [hc]; rfl)
    · exact kp hy (by rw [hc]; rfl) (by rw [hc]; rfl)
  have hS1 : sx_I g w' q t := sx_I_k hS (fun i hi => hK _ (sx_sm hS i hi) (sx_ne hS hP (sx_kb_no rfl) i hi).symm (sx_ne hS hPA (sx_kb_no rfl) i hi).symm)
  exact ⟨kp hX rfl rfl, ⟨hl, kp hC rfl rfl⟩, ⟨sk0, st0, en0, nu0, kp hT rfl rfl⟩, ⟨ps', ph', pe', h', h1, h3, h4, h2, h5⟩, ⟨hS1, hok⟩, fa, hf, kp hF rfl rfl, hv, hn, kp hfa rfl rfl, fg_ar_f hc hcs⟩
end
set_option maxHeartbeats 4000000 in
set_option maxRecDepth 100000 in
theorem ct_Co_take (l : Launch) (g : hw_G) (w : hw_H) {Xc T P PA : Nat} {o : Option Nat} {a b c0 : Int32} {h : Nat → Option Nat} {q : Nat → Nat} {t : sx_T} {F fa v : Nat} {cnt : Int32} {hf : Nat → Option Nat} {cs : fo_C} (hX : w Xc = some (.inr (4, [.ref T, .ref P, .ref (q 0), va_rf o]))) (hP : w P = some (.inr (1, [.ref PA, .int a, .int b, .int c0]))) (hPA : w PA = some (ar_q g 40 h)) (hS : sx_I g w q t) (hF : w F = some (fg_o (nI v) fa cs.length cnt)) (hn : cs.length ≤ 24) (hfa : w fa = some (ar_q g 24 hf)) (hcs : fg_ar g w hf cs) : hw_Mv l g ym_Co_take mw_Co_take (hw_R 2 0 0) [.ref Xc, .ref F] w (fun w' => ∃ (h' : Nat → Option Nat) (fc : Nat → Int32), (∀ (i : Nat) (x : Int32 × List Int32), cs[i]? = some x → fc i = cl_mask x.2) ∧ w' Xc = some (.inr (4, [.ref T, .ref P, .ref (q 0), .ref F])) ∧ w' P = some (pr_o PA cs.length (nI cs.length) 0) ∧ w' PA = some (ar_q g 40 h') ∧ pr_ar g w' h' cs.length ∧ sx_I g w' q (sx_bg fc cs.length v t) ∧ ∀ y, w y ≠ none → y ≠ Xc → y ≠ P → y ≠ PA → (∀ i, i < 6 → y ≠ q i) → w' y = w y) := by
  refine hw_enterv (r := 0) rfl rfl (by simp [Value.category]) (Nat.le_of_ble_eq_true rfl) ?_
  intro p e s m args below meth c A X hr hlk hnm
  refine sg_Co_take_0 X (fun _ _ _ _ _ _ h => h) (hw_rtv X hr hlk) ?_
  unfold vc_Co_take_0
  have nXP := hw_nk hX hP rfl
  have nXPA := hw_nk hX hPA rfl
  have nPPA := hw_nk hP hPA rfl
  refine ⟨_, ⟨_, hX, Nat.le_of_ble_eq_true rfl, rfl⟩, _, ⟨_, (va_up_self _ _ _), rfl⟩, ?_⟩
  have hX1 : (va_up w Xc (some (.inr (4, [.ref T, .ref P, .ref (q 0), .ref F])))) Xc = _ := (va_up_self _ _ _)
  have hP1 := hw_kw (some (.inr (4, [.ref T, .ref P, .ref (q 0), .ref F]))) hX hP rfl
  have hPA1 := hw_kw (some (.inr (4, [.ref T, .ref P, .ref (q 0), .ref F]))) hX hPA rfl
  have hF1 := hw_kw (some (.inr (4, [.ref T, .ref P, .ref (q 0), .ref F]))) hX hF rfl
  have hfa1 := hw_kw (some (.inr (4, [.ref T, .ref P, .ref (q 0), .ref F]))) hX hfa rfl
  have hS1 := sx_I_u (some (.inr (4, [.ref T, .ref P, .ref (q 0), .ref F]))) hS hX rfl
  have hc1 : fg_ar g _ hf cs := fg_ar_f (cl_F_u (e := some (.inr (4, [.ref T, .ref P, .ref (q 0), .ref F]))) hX rfl rfl) hcs
  have ku : ∀ y, y ≠ Xc → (va_up w Xc (some (.inr (4, [.ref T, .ref P, .ref (q 0), .ref F])))) y = w y := fun y hy => va_up_ne _ _ hy
  show hw_o (va_up w Xc (some (.inr (4, [.ref T, .ref P, .ref (q 0), .ref F])))) P _ ∧ hw_cv l g _ _ _ _ _ _ _ (va_up w Xc (some (.inr (4, [.ref T, .ref P, .ref (q 0), .ref F])))) _
  generalize va_up w Xc (some (.inr (4, [.ref T, .ref P, .ref (q 0), .ref F]))) = w1 at hX1 hP1 hPA1 hF1 hfa1 hS1 hc1 ku ⊢
  refine ⟨hw_o_of hP1 rfl rfl, hw_cv_0 (by decide) (by decide) (ct_Pr_begin l g w1 hP1 hPA1 hF1 hn hfa1 (fg_ar_p hc1)) (Nat.zero_le _) (Nat.zero_le _) ?_⟩
  rintro w2 ⟨h', hh, rfl⟩
  have hPx : (va_up w1 PA (some (ar_q g 40 h'))) P = _ := hw_kw _ hPA1 hP1 rfl
  have hX2 := hw_kw (some (pr_o PA cs.length (nI cs.length) 0)) hPx (hw_kw (some (ar_q g 40 h')) hPA1 hX1 rfl) rfl
  have hF2 := hw_kw (some (pr_o PA cs.length (nI cs.length) 0)) hPx (hw_kw (some (ar_q g 40 h')) hPA1 hF1 rfl) rfl
  have hfa2 := hw_kw (some (pr_o PA cs.length (nI cs.length) 0)) hPx (hw_kw (some (ar_q g 40 h')) hPA1 hfa1 rfl) rfl
  have hS2 := sx_I_u (some (pr_o PA cs.length (nI cs.length) 0)) (sx_I_u (some (ar_q g 40 h')) hS1 hPA1 rfl) hPx rfl
  have hc2 : fg_ar g _ hf cs := fg_ar_f (cl_F_u (e := some (pr_o PA cs.length (nI cs.length) 0)) hPx rfl rfl) (fg_ar_f (cl_F_u (e := some (ar_q g 40 h')) hPA1 rfl rfl) hc1)
  have hP2 : (va_up (va_up w1 PA (some (ar_q g 40 h'))) P (some (pr_o PA cs.length (nI cs.length) 0))) P = _ := (va_up_self _ _ _)
  have hPA2 : (va_up (va_up w1 PA (some (ar_q g 40 h'))) P (some (pr_o PA cs.length (nI cs.length) 0))) PA = some (ar_q g 40 h') := (va_up_ne _ _ nPPA.symm).trans (va_up_self _ _ _)
  have kv : ∀ y, y ≠ Xc → y ≠ P → y ≠ PA → (va_up (va_up w1 PA (some (ar_q g 40 h'))) P (some (pr_o PA cs.length (nI cs.length) 0))) y = w y := fun y h1 h2 h3 => (va_up_ne _ _ h2).trans ((va_up_ne _ _ h3).trans (ku y h1))
  generalize va_up (va_up w1 PA (some (ar_q g 40 h'))) P (some (pr_o PA cs.length (nI cs.length) 0)) = w2 at hX2 hF2 hfa2 hS2 hc2 hP2 hPA2 kv ⊢
  refine ⟨_, ⟨_, hX2, rfl⟩, hw_o_of hS2.2.1 rfl rfl, hw_cv_0 (by decide) (by decide) (ct_Se_begin l g w2 hS2 hF2 hn hfa2 hc2) (Nat.zero_le _) (Nat.zero_le _) ?_⟩
  rintro w3 ⟨fc, hfc, hS3, hK3⟩
  refine ⟨hw_00, h', fc, hfc, sx_kq hS2 hK3 hX2 rfl, sx_kq hS2 hK3 hP2 rfl, sx_kq hS2 hK3 hPA2 rfl, ?_, hS3, ?_⟩
  · intro i hi
    obtain ⟨kc, k1, k2⟩ := fg_ar_p hc2 i hi
    exact ⟨kc, (hh i hi).trans k1, cl_s_f (cl_F_s hS2 hK3) k2⟩
  · intro y hy y1 y2 y3 y4
    have e1 := kv y y1 y2 y3
    exact (hK3 y (by rw [e1]; exact hy) y4).trans e1
theorem tx_in10 {m : Int32} (h : tx_in m 1 10 = true) : ∃ j : Nat, 1 ≤ j ∧ j ≤ 10 ∧ m = nI j := by
  simp only [tx_in, Bool.and_eq_true, Bool.not_eq_true', decide_eq_false_iff_not] at h
  obtain ⟨h1, h2⟩ := h
  have h0 : ¬ m < 0 := fun z => h1 (Int32.lt_trans z (by decide))
  obtain ⟨j, hj, rfl⟩ := nI_of h0
  have h3 : ¬ j < 1 := fun z => h1 (nI_lt (b := 1) z (by decide))
  have h4 : ¬ 10 < j := fun z => h2 (nI_lt (a := 10) z hj)
  exact ⟨j, by omega, by omega, rfl⟩
theorem fg_in_v {f : Nat → Int32} {len : Nat} {v : Int32} {cs : fo_C} {q : Nat × Nat} (h : fg_in f len = (some (v, cs), q)) : ∃ j : Nat, 1 ≤ j ∧ j ≤ 10 ∧ v = nI j := by
  unfold fg_in fg_ia at h
  split at h
  rotate_left
  · cases h
  unfold fg_ib at h
  split at h
  rotate_left
  · cases h
  unfold fg_ic at h
  split at h
  · cases h
  split at h
  rotate_left
  · cases h
  rename_i v0 _ hv
  unfold fg_id at h
  split at h
  · cases h
  split at h
  rotate_left
  · cases h
  unfold fg_ie at h
  split at h
  · cases h
  split at h
  · cases h
  cases h
  exact tx_in10 hv
set_option maxHeartbeats 4000000 in
set_option maxRecDepth 100000 in
theorem ct_Co_literal (l : Launch) (g : hw_G) (w : hw_H) {Xc T TC P PA : Nat} {q : Nat → Nat} {len : Nat} {f : Nat → Int32} {F v : Nat} {cs : fo_C} {cnt : Int32} {t : sx_T} {x y : Int32} (H : co_I g w Xc T TC P PA q len f F v cs cnt t) : hw_Mi l g ym_Co_literal mw_Co_literal (hw_R 2 0 0) [.ref Xc, .int x, .int y] w (fun r w' => w' = w) := by
  refine hw_enteri (r := 1) rfl rfl (by simp [Value.category]) (Nat.le_of_ble_eq_true rfl) ?_
  intro p e s m args below meth c A X hr hlk hnm
  refine sg_Co_literal_0 X (fun _ _ _ _ _ _ h => h) (hw_rti X hr hlk) ?_
  unfold vc_Co_literal_0
  have H0 := H
  obtain ⟨hX, ⟨hl, hC⟩, ⟨sk, st, en, nu, hT⟩, ⟨ps, ph, pe, h, hP, hps, hpe, hPA, hpr⟩, ⟨hS, hok⟩, fa, hf, hF, hv, hn, hfa, hcs⟩ := H
  refine ⟨_, ⟨_, hX, rfl⟩, hw_o_of hP rfl rfl, hw_cq_0 (by decide) (by decide) (ct_Pr_find l g w hP hps hPA hpr) (Nat.zero_le _) (Nat.zero_le _) ?_⟩
  rintro o w1 ⟨rfl, hc⟩
  refine ⟨fun _ => ⟨hw_00, rfl⟩, fun kc ho => ⟨fun _ => ⟨hw_00, rfl⟩, fun h0 => ?_⟩⟩
  obtain ⟨num, ls, la, f5, c1, c2, c3⟩ := hc kc ho
  refine ⟨_, ⟨_, c1, rfl⟩, fun h1 => ⟨_, ⟨_, c1, rfl⟩, _, ⟨_, _, c2, ?_, rfl⟩, hw_00, rfl⟩, fun _ => ⟨hw_00, rfl⟩⟩
  exact vp_in_lt c3.1 (by decide) h0 h1
set_option maxHeartbeats 4000000 in
set_option maxRecDepth 100000 in
theorem ct_Co_solve (l : Launch) (g : hw_G) (w : hw_H) {Xc T TC P PA : Nat} {q : Nat → Nat} {len : Nat} {f : Nat → Int32} {F v : Nat} {cs : fo_C} {cnt : Int32} {t : sx_T} (H : co_I g w Xc T TC P PA q len f F v cs cnt t) : hw_Mi l g ym_Co_solve mw_Co_solve (hw_R 6 0 0) [.ref Xc] w (fun r w' => r = hw_z (sx_sa (sx_F 22539 t)) ∧ co_I g w' Xc T TC P PA q len f F v cs cnt (sx_F 22539 t) ∧ co_K w w' Xc T TC P PA q F) := by
  refine hw_enteri (r := 0) rfl rfl (by simp [Value.category]) (Nat.le_of_ble_eq_true rfl) ?_
  intro p e s m args below meth c A X hr hlk hnm
  refine sg_Co_solve_0 X (fun _ _ _ _ _ _ h => h) (hw_rti X hr hlk) ?_
  unfold vc_Co_solve_0
  have H0 := H
  obtain ⟨hX, ⟨hl, hC⟩, ⟨sk, st, en, nu, hT⟩, ⟨ps, ph, pe, h, hP, hps, hpe, hPA, hpr⟩, ⟨hS, hok⟩, fa, hf, hF, hv, hn, hfa, hcs⟩ := H
  refine ⟨_, ⟨_, hX, rfl⟩, hw_o_of hS.2.1 rfl rfl, hw_ci_0 (by decide) (by decide) (ct_Se_finds l g w hS hok) (Nat.zero_le _) (Nat.zero_le _) ?_⟩
  rintro r w1 ⟨hr, i1, ok1, k1⟩
  refine ⟨fun h0 => ⟨hw_00, ?_, co_I_s H0 i1 ok1 k1, co_K_s k1⟩, fun h0 => ⟨hw_00, ?_, co_I_s H0 i1 ok1 k1, co_K_s k1⟩⟩
  · rw [← hr]; exact h0.symm
  · rw [hr] at h0
    rw [(hw_z_ne _).mp h0]; rfl
set_option maxHeartbeats 4000000 in
set_option maxRecDepth 100000 in
theorem ct_Co_proves (l : Launch) (g : hw_G) (w : hw_H) {Xc T TC P PA : Nat} {q : Nat → Nat} {len : Nat} {f : Nat → Int32} {F v : Nat} {cs : fo_C} {cnt : Int32} {t : sx_T} (H : co_I g w Xc T TC P PA q len f F v cs cnt t) : hw_Mi l g ym_Co_proves mw_Co_proves (hw_R 6 0 0) [.ref Xc] w (fun r w' => r = hw_z (!(sx_sa (sx_F 22539 t)) && (sx_re (sx_F 22539 t) && sx_sh (sx_F 22539 t))) ∧ co_I g w' Xc T TC P PA q len f F v cs cnt (sx_F 22539 t) ∧ co_K w w' Xc T TC P PA q F) := by
  refine hw_enteri (r := 0) rfl rfl (by simp [Value.category]) (Nat.le_of_ble_eq_true rfl) ?_
  intro p e s m args below meth c A X hr hlk hnm
  refine sg_Co_proves_0 X (fun _ _ _ _ _ _ h => h) (hw_rtz X hr hlk) ?_
  unfold vc_Co_proves_0
  have H0 := H
  obtain ⟨hX, ⟨hl, hC⟩, ⟨sk, st, en, nu, hT⟩, ⟨ps, ph, pe, h, hP, hps, hpe, hPA, hpr⟩, ⟨hS, hok⟩, fa, hf, hF, hv, hn, hfa, hcs⟩ := H
  refine ⟨_, ⟨_, hX, rfl⟩, hw_o_of hS.2.1 rfl rfl, hw_ci_0 (by decide) (by decide) (ct_Se_finds l g w hS hok) (Nat.zero_le _) (Nat.zero_le _) ?_⟩
  rintro r w1 ⟨hr, i1, ok1, k1⟩
  have H1 := co_I_s H0 i1 ok1 k1
  have K1 : co_K w w1 Xc T TC P PA q F := co_K_s k1
  have hX1 := H1.1
  generalize sx_F 22539 t = t1 at hr i1 H1 ⊢
  refine ⟨fun h0 => ⟨hw_00, Or.inl rfl, ?_, H1, K1⟩, fun h0 => ⟨_, ⟨_, hX1, rfl⟩, _, ⟨_, i1.2.1, rfl⟩, fun h1 => ⟨hw_00, Or.inl rfl, ?_, H1, K1⟩, fun h1 => ⟨_, ⟨_, hX1, rfl⟩, _, ⟨_, i1.2.1, rfl⟩, fun h2 => ⟨hw_00, Or.inl rfl, ?_, H1, K1⟩, fun h2 => ⟨hw_00, Or.inr rfl, ?_, H1, K1⟩⟩⟩⟩
  · rw [hr] at h0
    rw [(hw_z_ne _).mp h0]; rfl
  · rw [(hw_z_eq _).mp h1]
    cases sx_sa t1 <;> rfl
  · rw [(hw_z_eq _).mp h2]
    cases sx_sa t1 <;> cases sx_re t1 <;> rfl
  · rw [hr] at h0
    rw [(hw_z_eq _).mp h0, (hw_z_ne _).mp h1, (hw_z_ne _).mp h2]; rfl
set_option maxHeartbeats 4000000 in
set_option maxRecDepth 100000 in
theorem ct_Co_value (l : Launch) (g : hw_G) (w : hw_H) {Xc T TC P PA : Nat} {q : Nat → Nat} {len : Nat} {f : Nat → Int32} {F v : Nat} {cs : fo_C} {cnt : Int32} {t : sx_T} {x : Int32} (H : co_I g w Xc T TC P PA q len f F v cs cnt t) : hw_Mi l g ym_Co_value mw_Co_value (hw_R 6 0 0) [.ref Xc, .int x] w (fun r w' => co_K w w' Xc T TC P PA q F ∧ ((x < 1 ∨ nI v < x) → r = -1 ∧ w' = w) ∧ (¬ (x < 1 ∨ nI v < x) → co_I g w' Xc T TC P PA q len f F v cs cnt (sx_F 22539 t) ∧ r = if sx_sa (sx_F 22539 t) = true then (if (sx_kn (sx_F 22539 t) &&& cl_bit x) = 0 then 0 else 1) else -1)) := by
  refine hw_enteri (r := 0) rfl rfl (by simp [Value.category]) (Nat.le_of_ble_eq_true rfl) ?_
  intro p e s m args below meth c A X hr hlk hnm
  refine sg_Co_value_0 X (fun _ _ _ _ _ _ h => h) (hw_rti X hr hlk) ?_
  unfold vc_Co_value_0
  have H0 := H
  obtain ⟨hX, ⟨hl, hC⟩, ⟨sk, st, en, nu, hT⟩, ⟨ps, ph, pe, h, hP, hps, hpe, hPA, hpr⟩, ⟨hS, hok⟩, fa, hf, hF, hv, hn, hfa, hcs⟩ := H
  refine ⟨fun h1 => ⟨hw_00, co_K_r, fun _ => ⟨rfl, rfl⟩, fun z => absurd (Or.inl h1) z⟩, fun h1 => ⟨_, ⟨_, hX, rfl⟩, _, ⟨_, hF, rfl⟩, fun h2 => ⟨hw_00, co_K_r, fun _ => ⟨rfl, rfl⟩, fun z => absurd (Or.inr h2) z⟩, fun h2 => ⟨_, ⟨_, hX, rfl⟩, hw_o_of hS.2.1 rfl rfl, hw_ci_0 (by decide) (by decide) (ct_Se_finds l g w hS hok) (Nat.zero_le _) (Nat.zero_le _) ?_⟩⟩⟩
  rintro r w1 ⟨hr, i1, ok1, k1⟩
  have H1 := co_I_s H0 i1 ok1 k1
  have K1 : co_K w w1 Xc T TC P PA q F := co_K_s k1
  have hX1 := H1.1
  have hno : ¬ (x < 1 ∨ nI v < x) := fun z => z.elim h1 h2
  generalize sx_F 22539 t = t1 at hr i1 H1 ⊢
  refine ⟨fun h0 => ⟨_, ⟨_, hX1, rfl⟩, _, ⟨_, i1.2.1, rfl⟩, hw_ci_0 (by decide) (by decide) (ct_Co_bit l g w1) (Nat.zero_le _) (Nat.zero_le _) ?_⟩, fun h0 => ⟨hw_00, K1, fun z => absurd z hno, fun _ => ⟨H1, ?_⟩⟩⟩
  · rintro r2 w2 ⟨rfl, rfl⟩
    rw [hr] at h0
    have hs := (hw_z_ne _).mp h0
    refine ⟨fun h3 => ⟨hw_00, K1, fun z => absurd z hno, fun _ => ⟨H1, ?_⟩⟩, fun h3 => ⟨hw_00, K1, fun z => absurd z hno, fun _ => ⟨H1, ?_⟩⟩⟩
    · rw [if_pos hs, if_pos h3]
    · rw [if_pos hs, if_neg h3]
  · rw [hr] at h0
    rw [if_neg (by rw [(hw_z_eq _).mp h0]; decide)]
set_option maxHeartbeats 4000000 in
set_option maxRecDepth 100000 in
theorem ct_Co_count (l : Launch) (g : hw_G) (w : hw_H) {Xc T TC P PA : Nat} {q : Nat → Nat} {len : Nat} {f : Nat → Int32} {F v : Nat} {cs : fo_C} {cnt : Int32} {t : sx_T} (H : co_I g w Xc T TC P PA q len f F v cs cnt t) : hw_Mi l g ym_Co_count mw_Co_count (hw_R 3 0 0) [.ref Xc] w (fun r w' => r = fo_ca cs v cnt ∧ co_I g w' Xc T TC P PA q len f F v cs (fo_ca cs v cnt) t ∧ co_K w w' Xc T TC P PA q F) := by
  refine hw_enteri (r := 0) rfl rfl (by simp [Value.category]) (Nat.le_of_ble_eq_true rfl) ?_
  intro p e s m args below meth c A X hr hlk hnm
  refine sg_Co_count_0 X (fun _ _ _ _ _ _ h => h) (hw_rti X hr hlk) ?_
  unfold vc_Co_count_0
  have H0 := H
  obtain ⟨hX, ⟨hl, hC⟩, ⟨sk, st, en, nu, hT⟩, ⟨ps, ph, pe, h, hP, hps, hpe, hPA, hpr⟩, ⟨hS, hok⟩, fa, hf, hF, hv, hn, hfa, hcs⟩ := H
  refine ⟨_, ⟨_, hX, rfl⟩, hw_o_of hF rfl rfl, hw_ci_0 (by decide) (by decide) (ct_Fo_satisfying l g w hF hn hfa hcs hv) (Nat.zero_le _) (Nat.zero_le _) ?_⟩
  rintro r w1 ⟨rfl, rfl⟩
  exact ⟨hw_00, rfl, co_I_F H0 hF, fun y _ _ _ _ _ _ _ hy => va_up_ne _ _ hy⟩
set_option maxHeartbeats 4000000 in
set_option maxRecDepth 100000 in
theorem ct_Co_isLiteralOrNone (l : Launch) (g : hw_G) (w : hw_H) {Xc T TC P PA : Nat} {q : Nat → Nat} {len : Nat} {f : Nat → Int32} {F v : Nat} {cs : fo_C} {cnt : Int32} {t : sx_T} {x : Int32} (H : co_I g w Xc T TC P PA q len f F v cs cnt t) : hw_Mi l g ym_Co_isLiteralOrNone mw_Co_isLiteralOrNone (hw_R 1 0 0) [.ref Xc, .int x] w (fun r w' => r = hw_z (!decide (x < -(nI v)) && !decide (nI v < x)) ∧ w' = w) := by
  refine hw_enteri (r := 0) rfl rfl (by simp [Value.category]) (Nat.le_of_ble_eq_true rfl) ?_
  intro p e s m args below meth c A X hr hlk hnm
  refine sg_Co_isLiteralOrNone_0 X (fun _ _ _ _ _ _ h => h) (hw_rtz X hr hlk) ?_
  unfold vc_Co_isLiteralOrNone_0
  have H0 := H
  obtain ⟨hX, ⟨hl, hC⟩, ⟨sk, st, en, nu, hT⟩, ⟨ps, ph, pe, h, hP, hps, hpe, hPA, hpr⟩, ⟨hS, hok⟩, fa, hf, hF, hv, hn, hfa, hcs⟩ := H
  refine ⟨_, ⟨_, hX, rfl⟩, _, ⟨_, hF, rfl⟩, fun h1 => ⟨hw_00, Or.inl rfl, ?_, rfl⟩, fun h1 => ⟨_, ⟨_, hX, rfl⟩, _, ⟨_, hF, rfl⟩, fun h2 => ⟨hw_00, Or.inl rfl, ?_, rfl⟩, fun h2 => ⟨hw_00, Or.inr rfl, ?_, rfl⟩⟩⟩
  · simp [h1, hw_z]
  · simp [h2, hw_z]
  · simp [h1, h2, hw_z]
def co_lt (v : Nat) (x : Int32) : Bool := !decide (x < -(nI v)) && !decide (nI v < x)
def co_fz (k : Int32) : Int32 := if k = -1 then -1 else cx_bc k
def co_fr (cs : fo_C) (v : Nat) (x y : Int32) : Int32 := if co_lt v x = true ∧ co_lt v y = true ∧ ¬ (¬ x = 0 ∧ x = -y) then co_fz (fo_z (fo_po cs (v + 1) (cl_bit x ||| cl_bit y))) else -2
set_option maxHeartbeats 4000000 in
set_option maxRecDepth 100000 in
theorem ct_Co_forced (l : Launch) (g : hw_G) (w : hw_H) {Xc T TC P PA : Nat} {q : Nat → Nat} {len : Nat} {f : Nat → Int32} {F v : Nat} {cs : fo_C} {cnt : Int32} {t : sx_T} {x y : Int32} (H : co_I g w Xc T TC P PA q len f F v cs cnt t) : hw_Mi l g ym_Co_forced mw_Co_forced (hw_R 4 0 0) [.ref Xc, .int x, .int y] w (fun r w' => r = co_fr cs v x y ∧ w' = w) := by
  refine hw_enteri (r := 1) rfl rfl (by simp [Value.category]) (Nat.le_of_ble_eq_true rfl) ?_
  intro p e s m args below meth c A X hr hlk hnm
  refine sg_Co_forced_0 X (fun _ _ _ _ _ _ h => h) (hw_rti X hr hlk) ?_
  unfold vc_Co_forced_0
  have H0 := H
  obtain ⟨hX, ⟨hl, hC⟩, ⟨sk, st, en, nu, hT⟩, ⟨ps, ph, pe, h, hP, hps, hpe, hPA, hpr⟩, ⟨hS, hok⟩, fa, hf, hF, hv, hn, hfa, hcs⟩ := H
  refine ⟨hw_o_of hX rfl rfl, hw_ci_0 (by decide) (by decide) (ct_Co_isLiteralOrNone l g w H0) (Nat.zero_le _) (Nat.zero_le _) ?_⟩
  rintro r1 w1 ⟨hr1, rfl⟩
  refine ⟨fun h1 => ⟨hw_00, ?_, rfl⟩, fun h2 => ⟨hw_o_of hX rfl rfl, hw_ci_0 (by decide) (by decide) (ct_Co_isLiteralOrNone l g w1 H0) (Nat.zero_le _) (Nat.zero_le _) ?_⟩⟩
  · rw [hr1] at h1
    have hz1 : co_lt v x = false := (hw_z_eq _).mp h1
    unfold co_fr
    rw [if_neg (by rw [hz1]; exact fun z => absurd z.1 (by decide))]
  rintro r2 w2 ⟨hr2, rfl⟩
  rw [hr1] at h2
  have hz2 : co_lt v x = true := (hw_z_ne _).mp h2
  refine ⟨fun h3 => ⟨hw_00, ?_, rfl⟩, fun h4 => ?_⟩
  · rw [hr2] at h3
    have hz3 : co_lt v y = false := (hw_z_eq _).mp h3
    unfold co_fr
    rw [if_neg (by rw [hz3]; exact fun z => absurd z.2.1 (by decide))]
  rw [hr2] at h4
  have hz4 : co_lt v y = true := (hw_z_ne _).mp h4
  refine ⟨fun h5 => ?_, fun h5 => ⟨fun h6 => ?_, fun h6 => ⟨hw_00, ?_, rfl⟩⟩⟩
  · exact ⟨_, ⟨_, hX, rfl⟩, hw_ci_0 (by decide) (by decide) (ct_Co_bit l g _) (Nat.zero_le _) (Nat.zero_le _) (by
      rintro r3 w3 ⟨rfl, rfl⟩
      refine hw_ci_0 (by decide) (by decide) (ct_Co_bit l g _) (Nat.zero_le _) (Nat.zero_le _) ?_
      rintro r4 w4 ⟨rfl, rfl⟩
      refine ⟨hw_o_of hF rfl rfl, hw_ci_0 (by decide) (by decide) (ct_Fo_forcedBy l g _ hF hn hfa hcs hv) (Nat.zero_le _) (Nat.zero_le _) ?_⟩
      rintro r5 w5 ⟨rfl, rfl⟩
      refine ⟨fun h6 => hw_ci_0 (by decide) (by decide) (ct_In_bitCount l g _) (Nat.zero_le _) (Nat.zero_le _) ?_, fun h6 => ⟨hw_00, ?_, rfl⟩⟩
      · rintro r6 w6 ⟨rfl, rfl⟩
        refine ⟨hw_00, ?_, rfl⟩
        unfold co_fr
        rw [if_pos ⟨hz2, hz4, fun z => z.1 h5⟩]; unfold co_fz; rw [if_neg h6]
      · unfold co_fr
        rw [if_pos ⟨hz2, hz4, fun z => z.1 h5⟩]; unfold co_fz; rw [if_pos h6])⟩
  · exact ⟨_, ⟨_, hX, rfl⟩, hw_ci_0 (by decide) (by decide) (ct_Co_bit l g _) (Nat.zero_le _) (Nat.zero_le _) (by
      rintro r3 w3 ⟨rfl, rfl⟩
      refine hw_ci_0 (by decide) (by decide) (ct_Co_bit l g _) (Nat.zero_le _) (Nat.zero_le _) ?_
      rintro r4 w4 ⟨rfl, rfl⟩
      refine ⟨hw_o_of hF rfl rfl, hw_ci_0 (by decide) (by decide) (ct_Fo_forcedBy l g _ hF hn hfa hcs hv) (Nat.zero_le _) (Nat.zero_le _) ?_⟩
      rintro r5 w5 ⟨rfl, rfl⟩
      refine ⟨fun h7 => hw_ci_0 (by decide) (by decide) (ct_In_bitCount l g _) (Nat.zero_le _) (Nat.zero_le _) ?_, fun h7 => ⟨hw_00, ?_, rfl⟩⟩
      · rintro r6 w6 ⟨rfl, rfl⟩
        refine ⟨hw_00, ?_, rfl⟩
        unfold co_fr
        rw [if_pos ⟨hz2, hz4, fun z => h6 z.2⟩]; unfold co_fz; rw [if_neg h7]
      · unfold co_fr
        rw [if_pos ⟨hz2, hz4, fun z => h6 z.2⟩]; unfold co_fz; rw [if_pos h7])⟩
  · unfold co_fr
    rw [if_neg (fun z => z.2.2 ⟨h5, h6⟩)]
set_option maxHeartbeats 4000000 in
set_option maxRecDepth 100000 in
theorem ct_Co_read (l : Launch) (g : hw_G) (w : hw_H) {Xc T TC P PA : Nat} {q : Nat → Nat} {len : Nat} {f : Nat → Int32} {F v : Nat} {cs : fo_C} {cnt : Int32} {t : sx_T} (H : co_I g w Xc T TC P PA q len f F v cs cnt t) : hw_Mi l g ym_Co_read mw_Co_read (hw_R 11 50 268) [.ref Xc] w (fun r w' => co_K w w' Xc T TC P PA q F ∧ ((∃ p0 : Nat × Nat, fg_in f len = (none, p0) ∧ r = -1 - nI p0.1 ∧ co_I g w' Xc T TC P PA q 0 f F v cs cnt t) ∨ ∃ (p0 : Nat × Nat) (v' F' : Nat) (cs' : fo_C) (fc : Nat → Int32), fg_in f len = (some (nI v', cs'), p0) ∧ 1 ≤ v' ∧ r = nI cs'.length ∧ (∀ (i : Nat) (x : Int32 × List Int32), cs'[i]? = some x → fc i = cl_mask x.2) ∧ co_I g w' Xc T TC P PA q 0 f F' v' cs' (-1) (sx_bg fc cs'.length v' t))) := by
  refine hw_enteri (r := 2) rfl rfl (by simp [Value.category]) (Nat.le_of_ble_eq_true rfl) ?_
  intro p e s m args below meth c A X hr hlk hnm
  refine sg_Co_read_0 X (fun _ _ _ _ _ _ h => h) (hw_rti X hr hlk) ?_
  unfold vc_Co_read_0
  have H0 := H
  obtain ⟨hX, ⟨hl, hC⟩, ⟨sk, st, en, nu, hT⟩, ⟨ps, ph, pe, h, hP, hps, hpe, hPA, hpr⟩, ⟨hS, hok⟩, fa, hf, hF, hv, hn, hfa, hcs⟩ := H
  refine ⟨_, ⟨_, hX, rfl⟩, hw_cq_n (by decide) (by decide) (ct_Fo_formulaIn l g w hT hC hl) (Nat.le_refl _) (Nat.le_refl _) ?_⟩
  rintro o w1 ⟨p0, nu', hp1, hp2, hT1, hk1, hcase⟩
  have kp : ∀ {y : Nat} {e : va_E}, w y = some e → Nat.beq (hw_kd e) 0 = false → w1 y = some e := fun hy h0 => (hk1 _ (hw_sn hy) (hw_nk hy hT h0)).trans hy
  have hX1 := kp hX rfl
  have hC1 := kp hC rfl
  have H1 : co_I g w1 Xc T TC P PA q len f F v cs cnt t := co_I_T H0 hT1 hC1 hl (fun y h1 h2 _ => hk1 y h1 h2)
  refine ⟨_, ⟨_, hX1, rfl⟩, _, ⟨_, hT1, rfl⟩, _, ⟨_, hX1, rfl⟩, hw_o_of hT1 rfl rfl, hw_cv_n (mc' := 0) (ms' := 0) (by decide) (by decide) (ct_Te_clear l g w1 hT1) (Nat.le_refl _) (Nat.le_refl _) ?_⟩
  rintro w2 rfl
  have H2 : co_I g (va_up w1 T (some (tx_o TC 0 1 (nI p0.1) (nI p0.2) nu'))) Xc T TC P PA q 0 f F v cs cnt t := co_I_T H1 (va_up_self _ _ _) (hw_kw _ hT1 hC1 rfl) (Nat.zero_le _) (fun y _ h2 _ => va_up_ne _ _ h2)
  have hk2 : ∀ y, w y ≠ none → y ≠ T → (va_up w1 T (some (tx_o TC 0 1 (nI p0.1) (nI p0.2) nu'))) y = w y := fun y h1 h2 => (va_up_ne _ _ h2).trans (hk1 y h1 h2)
  have kf : ∀ {y : Nat} {e : va_E}, w1 y = some e → Nat.beq (hw_kd e) 0 = false → (va_up w1 T (some (tx_o TC 0 1 (nI p0.1) (nI p0.2) nu'))) y = some e := fun hy h0 => hw_kw _ hT1 hy h0
  have kc2 : cl_F w1 (va_up w1 T (some (tx_o TC 0 1 (nI p0.1) (nI p0.2) nu'))) := cl_F_u hT1 rfl rfl
  generalize va_up w1 T (some (tx_o TC 0 1 (nI p0.1) (nI p0.2) nu')) = w2 at H2 hk2 kf kc2 ⊢
  refine ⟨fun ho => ⟨⟨Nat.le_refl _, Nat.le_refl _⟩, fun y h1 _ h2 _ _ _ _ _ => hk2 y h1 h2, Or.inl ⟨p0, ?_, rfl, H2⟩⟩, fun F' ho => ?_⟩
  · rcases hcase with ⟨-, h9⟩ | ⟨F9, _, _, _, _, h9, _⟩
    · exact h9
    · rw [ho] at h9; cases h9
  rcases hcase with ⟨h9, -⟩ | ⟨F9, fa', v9, cs', hf', h9, nF, nfa, hF', hfa', hn', hcs', hfg⟩
  · rw [ho] at h9; cases h9
  rw [ho] at h9
  cases h9
  obtain ⟨v', hv1, hv2, rfl⟩ := fg_in_v hfg
  obtain ⟨hX2, ⟨hl2, hC2⟩, ⟨sk2, st2, en2, nu2, hT2⟩, ⟨ps2, ph2, pe2, h2, hP2, hps2, hpe2, hPA2, hpr2⟩, ⟨hS2, hok2⟩, fa2, hf2, hF2, -, -, hfa2, -⟩ := H2
  refine ⟨hw_o_of hX2 rfl rfl, hw_cv_n (mc' := 0) (ms' := 0) (by decide) (by decide) (ct_Co_take (o := some F) l g w2 hX2 hP2 hPA2 hS2 (kf hF' rfl) hn' (kf hfa' rfl) (fg_ar_f kc2 hcs')) (Nat.le_refl _) (Nat.le_refl _) ?_⟩
  rintro w3 ⟨h', fc, hfc, hX3, hP3, hPA3, hpr3, hS3, hk3⟩
  have kg : ∀ {y : Nat} {e : va_E}, w2 y = some e → Nat.beq (hw_kd e) 4 = false → Nat.beq (hw_kd e) 1 = false → Nat.beq (hw_kd e) 140 = false → sx_kb (hw_kd e) = true → w3 y = some e := fun hy a1 a2 a3 a4 => (hk3 _ (hw_sn hy) (hw_nk hy hX2 a1) (hw_nk hy hP2 a2) (hw_nk hy hPA2 a3) (sx_ne hS2 hy (sx_kb_no a4))).trans hy
  have hF3 := kg (kf hF' rfl) rfl rfl rfl rfl
  have hfa3 := kg (kf hfa' rfl) rfl rfl rfl rfl
  have hc3 : cl_F w2 w3 := fun y e hy hc => by
    rcases hc with hc | hc
    · exact kg hy (by rw [hc]; rfl) (by rw [hc]; rfl) (by rw [hc]; rfl) (by rw [hc]; rfl)
    · exact kg hy (by rw [hc]; rfl) (by rw [hc]; rfl) (by rw [hc]; rfl) (by rw [hc]; rfl)
  refine ⟨_, ⟨_, hF3, rfl⟩, ⟨Nat.le_refl _, Nat.le_refl _⟩, ?_, Or.inr ⟨p0, v', F', cs', fc, hfg, hv1, rfl, hfc, hX3, ⟨Nat.zero_le _, kg hC2 rfl rfl rfl rfl⟩, ⟨_, _, _, _, kg hT2 rfl rfl rfl rfl⟩, ⟨_, _, _, _, hP3, (by omega), Or.inl rfl, hPA3, hpr3⟩, ⟨hS3, sx_ok_bg hok2 (by omega) hv2⟩, fa', hf', hF3, hv2, hn', hfa3, fg_ar_f hc3 (fg_ar_f kc2 hcs')⟩⟩
  intro y y0 y1 y2 y3 y4 y5 y6 y7
  have e2 := hk2 y y0 y2
  exact (hk3 y (by rw [e2]; exact y0) y1 y4 y5 y6).trans e2
set_option maxHeartbeats 4000000 in
set_option maxRecDepth 100000 in
theorem ct_Co_line (l : Launch) (g : hw_G) (w : hw_H) {Xc T TC P PA : Nat} {q : Nat → Nat} {len : Nat} {f : Nat → Int32} {F v : Nat} {cs : fo_C} {cnt : Int32} {t : sx_T} (H : co_I g w Xc T TC P PA q len f F v cs cnt t) : hw_Mi l g ym_Co_line mw_Co_line (hw_R 11 5 30) [.ref Xc] w (fun r w' => co_K w w' Xc T TC P PA q F ∧ co_I g w' Xc T TC P PA q 0 f F v cs cnt t) := by
  refine hw_enteri (r := 2) rfl rfl (by simp [Value.category]) (Nat.le_of_ble_eq_true rfl) ?_
  intro p e s m args below meth c A X hr hlk hnm
  refine sg_Co_line_0 X (fun _ _ _ _ _ _ h => h) (hw_rti X hr hlk) ?_
  unfold vc_Co_line_0
  have H0 := H
  obtain ⟨hX, ⟨hl, hC⟩, ⟨sk, st, en, nu, hT⟩, ⟨ps, ph, pe, h, hP, hps, hpe, hPA, hpr⟩, ⟨hS, hok⟩, fa, hf, hF, hv, hn, hfa, hcs⟩ := H
  refine ⟨_, ⟨_, hX, rfl⟩, _, ⟨_, hX, rfl⟩, _, ⟨_, hF, rfl⟩, hw_cq_n (by decide) (by decide) (ct_Li_lineIn l g w hT hC hl) (Nat.le_of_ble_eq_true rfl) (Nat.le_of_ble_eq_true rfl) ?_⟩
  rintro o w1 ⟨⟨p0, nu', hp1, hp2, hT1⟩, hk1, hcase⟩
  have kp : ∀ {y : Nat} {e : va_E}, w y = some e → Nat.beq (hw_kd e) 0 = false → w1 y = some e := fun hy h0 => (hk1 _ (hw_sn hy) (hw_nk hy hT h0)).trans hy
  have hX1 := kp hX rfl
  have hC1 := kp hC rfl
  have H1 : co_I g w1 Xc T TC P PA q len f F v cs cnt t := co_I_T H0 hT1 hC1 hl (fun y h1 h2 _ => hk1 y h1 h2)
  refine ⟨_, ⟨_, hX1, rfl⟩, _, ⟨_, hT1, rfl⟩, _, ⟨_, hX1, rfl⟩, hw_o_of hT1 rfl rfl, hw_cv_n (mc' := 0) (ms' := 0) (by decide) (by decide) (ct_Te_clear l g w1 hT1) (Nat.le_of_ble_eq_true rfl) (Nat.le_of_ble_eq_true rfl) ?_⟩
  rintro w2 rfl
  have H2 : co_I g (va_up w1 T (some (tx_o TC 0 0 (nI p0.1) (nI p0.2) nu'))) Xc T TC P PA q 0 f F v cs cnt t := co_I_T H1 (va_up_self _ _ _) (hw_kw _ hT1 hC1 rfl) (Nat.zero_le _) (fun y _ h2 _ => va_up_ne _ _ h2)
  have hk2 : ∀ y, w y ≠ none → y ≠ T → (va_up w1 T (some (tx_o TC 0 0 (nI p0.1) (nI p0.2) nu'))) y = w y := fun y h1 h2 => (va_up_ne _ _ h2).trans (hk1 y h1 h2)
  have kf : ∀ {y : Nat} {e : va_E}, w1 y = some e → Nat.beq (hw_kd e) 0 = false → (va_up w1 T (some (tx_o TC 0 0 (nI p0.1) (nI p0.2) nu'))) y = some e := fun hy h0 => hw_kw _ hT1 hy h0
  have kc2 : cl_F w1 (va_up w1 T (some (tx_o TC 0 0 (nI p0.1) (nI p0.2) nu'))) := cl_F_u hT1 rfl rfl
  generalize va_up w1 T (some (tx_o TC 0 0 (nI p0.1) (nI p0.2) nu')) = w2 at H2 hk2 kf kc2 ⊢
  refine ⟨fun ho => ⟨⟨Nat.le_of_ble_eq_true rfl, Nat.le_of_ble_eq_true rfl⟩, fun y h1 _ h2 _ _ _ _ _ => hk2 y h1 h2, H2⟩, fun L ho => ?_⟩
  obtain ⟨na, k', num, oc, fn, hk', hL, hN, hoc⟩ := hcase L ho
  have hL2 := kf hL rfl
  have hN2 := kf hN rfl
  have H3 := H2
  obtain ⟨hX2, ⟨hl2, hC2⟩, ⟨sk2, st2, en2, nu2, hT2⟩, ⟨ps2, ph2, pe2, h2, hP2, hps2, hpe2, hPA2, hpr2⟩, ⟨hS2, hok2⟩, fa2, hf2, hF2, -, -, hfa2, -⟩ := H2
  refine ⟨oc, ⟨_, hL2, rfl⟩, fun hoc0 => ⟨_, ⟨_, hX2, rfl⟩, hw_o_of hP2 rfl rfl, hw_ci_n (mc' := 0) (ms' := 0) (by decide) (by decide) (ct_Pr_delete l g w2 hP2 hps2 hPA2 hpr2 hL2 hk' hN2) (Nat.le_of_ble_eq_true rfl) (Nat.le_of_ble_eq_true rfl) ?_⟩, fun lc hoc1 => ⟨_, ⟨_, hX2, rfl⟩, hw_o_of hP2 rfl rfl, hw_ci_n (mc' := 1) (ms' := 4) (by decide) (by decide) (ct_Pr_add l g w2 hP2 hps2 hPA2 hpr2 hpe2 (hoc1 ▸ hL2) hk' hN2 (cl_s_f kc2 (hoc lc hoc1))) (Nat.le_of_ble_eq_true rfl) (Nat.le_of_ble_eq_true rfl) ?_⟩⟩
  · rintro r w3 ⟨ps', h', a1, a2, a3, a4, a5⟩
    refine ⟨⟨Nat.le_of_ble_eq_true rfl, Nat.le_of_ble_eq_true rfl⟩, ?_, co_I_P H3 a2 a3 (by omega) hpe2 a4 (fun y _ y1 y2 => a5 y y1 y2)⟩
    intro y y0 y1 y2 y3 y4 y5 y6 y7
    exact (a5 y y4 y5).trans (hk2 y y0 y2)
  · rintro r w3 ⟨ps', ph', pe', h', a1, a6, a2, a3, a4, a5⟩
    refine ⟨⟨Nat.le_of_ble_eq_true rfl, Nat.le_of_ble_eq_true rfl⟩, ?_, co_I_P H3 a2 a3 a1 a6 a4 a5⟩
    intro y y0 y1 y2 y3 y4 y5 y6 y7
    have e2 := hk2 y y0 y2
    exact (a5 y (by rw [e2]; exact y0) y4 y5).trans e2
