set_option maxHeartbeats 4000000 in
set_option maxRecDepth 100000 in
theorem ct_Mo_find (l : Launch) (g : hw_G) (w : hw_H) {r : Nat → Nat} {ty wo nx sz ft va cl hg em hn pl : Int32} {ch bg en ma lt nu hh kn bf : Nat → Int32} {Lv : Nat} {x : Int32} (H : mo_I g w r ty wo nx sz ft va cl (nI Lv) hg em hn pl ch bg en ma lt nu hh kn bf) (hLv : Lv ≤ 40) : hw_Mi l g ym_Mo_find mw_Mo_find (hw_R 1 0 0) [.ref (r 9), .int x] w (fun r0 w' => w' = w ∧ ((r0 = -1 ∧ ∀ i, i < Lv → ¬ nu i = x) ∨ ∃ i, i < Lv ∧ r0 = nI i ∧ nu i = x)) := by
  refine hw_enteri (r := 2) rfl rfl (by simp [Value.category]) (Nat.le_of_ble_eq_true rfl) ?_
  intro p e s m args below meth c A X hr hlk hnm
  refine sg_Mo_find_0 X (fun _ _ _ _ _ _ h => h) (hw_rti X hr hlk) ?_
  unfold vc_Mo_find_0
  have H0 := H
  obtain ⟨D, M, A0, A1, A2, A3, A4, A5, A6, A7, A8⟩ := H
  have L1 : ∀ (d i : Nat) (x2 : Int32), i + d = Lv → ((x2 = -1 ∧ ∀ i', i' < i → ¬ nu i' = x) ∨ ∃ i', i' < i ∧ x2 = nI i' ∧ nu i' = x) → hw_Ji p l e (hw_R 1 0 0) s m args below meth c 4 g A (fun r0 w' => w' = w ∧ ((r0 = -1 ∧ ∀ i, i < Lv → ¬ nu i = x) ∨ ∃ i, i < Lv ∧ r0 = nI i ∧ nu i = x)) 0 0 4 [some (.ref (r 9)), some (.int x), some (.int x2), some (.int (nI i))] [] w := by
    intro d
    induction d with
    | zero =>
      intro i x2 hi hx
      have hi2 : i = Lv := by omega
      subst hi2
      refine sg_Mo_find_4 X (fun _ _ _ _ _ _ h => h) (hw_rti X hr hlk) ?_
      unfold vc_Mo_find_4
      exact ⟨_, ⟨_, M, rfl⟩, fun _ => ⟨hw_00, rfl, hx⟩, fun h => absurd (Int32.le_refl _) h⟩
    | succ d ih =>
      intro i x2 hi hx
      refine sg_Mo_find_4 X (fun _ _ _ _ _ _ h => h) (hw_rti X hr hlk) ?_
      unfold vc_Mo_find_4
      refine ⟨_, ⟨_, M, rfl⟩, fun h => absurd h (nI_ge (by omega) (by omega)), fun _ => ⟨_, ⟨_, M, rfl⟩, _, hw_rd A5 (by omega) (by decide), fun h => ?_, fun h => ?_⟩⟩
      · rw [nI_1]
        refine ih (i + 1) x2 (by omega) ?_
        rcases hx with ⟨z1, z2⟩ | ⟨i', z1, z2, z3⟩
        · refine Or.inl ⟨z1, fun i' hi' => ?_⟩
          by_cases hii : i' = i
          · subst hii; exact h
          · exact z2 i' (by omega)
        · exact Or.inr ⟨i', by omega, z2, z3⟩
      · rw [nI_1]
        exact ih (i + 1) _ (by omega) (Or.inr ⟨i, by omega, rfl, h⟩)
  exact L1 Lv 0 _ (by omega) (Or.inl ⟨rfl, fun i' z => absurd z (Nat.not_lt_zero _)⟩)
set_option maxHeartbeats 4000000 in
set_option maxRecDepth 100000 in
theorem ct_Mo_forget (l : Launch) (g : hw_G) (w : hw_H) {r : Nat → Nat} {ty wo nx sz ft va cl lv hg em hn pl : Int32} {ch bg en ma lt nu hh kn bf : Nat → Int32} (H : mo_I g w r ty wo nx sz ft va cl lv hg em hn pl ch bg en ma lt nu hh kn bf) : hw_Mv l g ym_Mo_forget mw_Mo_forget (hw_R 1 0 0) [.ref (r 9)] w (fun w' => ∃ kn' : Nat → Int32, (∀ i, i < 21 → kn' i = 0) ∧ mo_I g w' r ty wo nx sz ft va cl lv hg em hn pl ch bg en ma lt nu hh kn' bf ∧ mo_K w w' r) := by
  refine hw_enterv (r := 1) rfl rfl (by simp [Value.category]) (Nat.le_of_ble_eq_true rfl) ?_
  intro p e s m args below meth c A X hr hlk hnm
  refine sg_Mo_forget_0 X (fun _ _ _ _ _ _ h => h) (hw_rtv X hr hlk) ?_
  unfold vc_Mo_forget_0
  have H0 := H
  obtain ⟨D, M, A0, A1, A2, A3, A4, A5, A6, A7, A8⟩ := H
  have L1 : ∀ (d i : Nat) (kn1 : Nat → Int32) (w1 : hw_H), i + d = 21 → (∀ i', i' < i → kn1 i' = 0) → mo_I g w1 r ty wo nx sz ft va cl lv hg em hn pl ch bg en ma lt nu hh kn1 bf → mo_K w w1 r → hw_Jv p l e (hw_R 1 0 0) s m args below meth c 2 g A (fun w' => ∃ kn' : Nat → Int32, (∀ i, i < 21 → kn' i = 0) ∧ mo_I g w' r ty wo nx sz ft va cl lv hg em hn pl ch bg en ma lt nu hh kn' bf ∧ mo_K w w' r) 0 0 2 [some (.ref (r 9)), some (.int (nI i))] [] w1 := by
    intro d
    induction d with
    | zero =>
      intro i kn1 w1 hi hx H1 hK1
      have hi2 : i = 21 := by omega
      subst hi2
      refine sg_Mo_forget_2 X (fun _ _ _ _ _ _ h => h) (hw_rtv X hr hlk) ?_
      unfold vc_Mo_forget_2
      exact ⟨fun _ => ⟨hw_00, kn1, hx, H1, hK1⟩, fun h => absurd (Int32.le_refl _) h⟩
    | succ d ih =>
      intro i kn1 w1 hi hx H1 hK1
      refine sg_Mo_forget_2 X (fun _ _ _ _ _ _ h => h) (hw_rtv X hr hlk) ?_
      unfold vc_Mo_forget_2
      refine ⟨fun h => absurd h (nI_ge (b := 21) (by omega) (by omega)), fun _ => ⟨_, ⟨_, H1.2.1, rfl⟩, _, hw_wr H1.2.2.2.2.2.2.2.2.2.1 (by omega) (by decide), ?_⟩⟩
      rw [nI_1]
      refine ih (i + 1) (upd kn1 i 0) _ (by omega) (fun i' hi' => ?_) (mo_u7 _ H1) (mo_K_u hK1 (by decide))
      by_cases hii : i' = i
      · subst hii; exact pk_us
      · rw [pk_un hii]; exact hx i' (by omega)
  exact L1 21 0 kn w rfl (fun i' z => absurd z (Nat.not_lt_zero _)) H0 mo_K_r
/-- what a clause tells: how many literals are open, and the last of them -/
def mo_to (lt kn : Nat → Int32) : Nat → Nat → Nat → Int32 → Nat × Int32
  | 0, _, o, x => (o, x)
  | d + 1, p, o, x => if kn ((10 : Int32) - lt p).toNatClampNeg = 0 then mo_to lt kn d (p + 1) (o + 1) (lt p) else mo_to lt kn d (p + 1) o x
def mo_tz (kn : Nat → Int32) (y : Nat × Int32) : Int32 := if y.1 = 0 then 0 else if 1 < y.1 ∨ ¬ kn ((10 : Int32) + y.2).toNatClampNeg = 0 then 99 else y.2 + 11
def mo_tl (lt kn : Nat → Int32) (j p : Nat) : Int32 := mo_tz kn (mo_to lt kn j p 0 0)
theorem mo_to_l {lt kn : Nat → Int32} : ∀ (d p o : Nat) (x : Int32), (∀ i, i < d → mo_l (lt (p + i))) → mo_l x → mo_l (mo_to lt kn d p o x).2 := by
  intro d
  induction d with
  | zero => intro p o x _ hx; exact hx
  | succ d ih =>
    intro p o x h hx
    have h1 : ∀ i, i < d → mo_l (lt (p + 1 + i)) := fun i hi => by
      have := h (i + 1) (by omega)
      rw [show p + 1 + i = p + (i + 1) by omega]; exact this
    rw [mo_to.eq_2]
    split
    · exact ih _ _ _ h1 (h 0 (by omega))
    · exact ih _ _ _ h1 hx
theorem mo_tl_s {lt kn : Nat → Int32} {j p : Nat} (h : ∀ i, i < j → mo_l (lt (p + i))) : mo_tl lt kn j p = 0 ∨ mo_tl lt kn j p = 99 ∨ ∃ q : Nat, q ≤ 20 ∧ mo_tl lt kn j p = nI (q + 1) ∧ kn q = 0 := by
  have hl := mo_to_l (kn := kn) j p 0 0 h mo_l0
  unfold mo_tl mo_tz
  generalize mo_to lt kn j p 0 0 = y at hl
  split
  · exact Or.inl rfl
  split
  · exact Or.inr (Or.inl rfl)
  · rename_i h1 h2
    obtain ⟨q, hq, he⟩ := hl
    refine Or.inr (Or.inr ⟨q, hq, ?_, ?_⟩)
    · have e : ∀ q, q < 21 → (nI q - 10) + 11 = nI (q + 1) := by decide
      rw [he]; exact e q (by omega)
    · have h3 : kn ((10 : Int32) + y.2).toNatClampNeg = 0 := Classical.byContradiction fun z => h2 (Or.inr z)
      rw [he, mo_lp q (by omega), nI_clamp (by omega)] at h3
      exact h3
set_option maxHeartbeats 4000000 in
set_option maxRecDepth 100000 in
theorem ct_Mo_told (l : Launch) (g : hw_G) (w : hw_H) {r : Nat → Nat} {ty wo nx sz ft va cl lv hg em hn pl : Int32} {ch bg en ma lt nu hh kn bf : Nat → Int32} {kc j : Nat} (H : mo_I g w r ty wo nx sz ft va cl lv hg em hn pl ch bg en ma lt nu hh kn bf) (hc : kc < 89) (hm : ma kc = nI j) (hj : j ≤ 6) (hl : ∀ i, i < 534 → mo_l (lt i)) : hw_Mi l g ym_Mo_told mw_Mo_told (hw_R 2 0 0) [.ref (r 9), .int (nI kc)] w (fun r0 w' => r0 = mo_tl lt kn j (6 * kc) ∧ w' = w) := by
  refine hw_enteri (r := 4) rfl rfl (by simp [Value.category]) (Nat.le_of_ble_eq_true rfl) ?_
  intro p e s m args below meth c A X hr hlk hnm
  refine sg_Mo_told_0 X (fun _ _ _ _ _ _ h => h) (hw_rti X hr hlk) ?_
  unfold vc_Mo_told_0
  have H0 := H
  obtain ⟨D, M, A0, A1, A2, A3, A4, A5, A6, A7, A8⟩ := H
  generalize hR : mo_to lt kn j (6 * kc) 0 0 = RES
  have L1 : ∀ (d i o : Nat) (x : Int32), i + d = j → o ≤ i → mo_l x → mo_to lt kn d (6 * kc + i) o x = RES → hw_Ji p l e (hw_R 2 0 0) s m args below meth c 6 g A (fun r0 w' => r0 = mo_tl lt kn j (6 * kc) ∧ w' = w) 0 0 7 [some (.ref (r 9)), some (.int (nI kc)), some (.int (nI o)), some (.int x), some (.int (nI i)), none] [] w := by
    intro d
    induction d with
    | zero =>
      intro i o x hi ho hx hres
      have hi2 : i = j := by omega
      subst hi2
      have hres : (o, x) = RES := hres
      subst hres
      obtain ⟨q, hq, he⟩ := hx
      have e10 : (10 : Int32) + x = nI q := by rw [he]; exact mo_lp q (by omega)
      refine sg_Mo_told_7 X (fun _ _ _ _ _ _ h => h) (hw_rti X hr hlk) ?_
      unfold vc_Mo_told_7
      refine ⟨_, ⟨_, M, rfl⟩, _, hw_rv A3 hc (by decide) hm, fun _ => ⟨fun h1 => ⟨fun h2 => ⟨hw_00, ?_, rfl⟩, fun h2 => ⟨_, ⟨_, M, rfl⟩, _, hw_rx q A7 e10 (by omega) (by decide), fun h3 => ⟨hw_00, ?_, rfl⟩, fun h3 => ⟨hw_00, ?_, rfl⟩⟩⟩, fun h1 => ⟨hw_00, ?_, rfl⟩⟩, fun h => absurd (Int32.le_refl _) h⟩
      · have h4 : 1 < o := (nI_ltI (a := 1) (by omega) (by omega)).mp h2
        unfold mo_tl mo_tz; rw [hR]
        rw [if_neg (show ¬ o = 0 by omega), if_pos (Or.inl h4)]
      · have h4 : ¬ 1 < o := fun z => h2 (nI_lt (a := 1) z (by omega))
        have h5 : ¬ o = 0 := fun z => h1 (by rw [z]; rfl)
        unfold mo_tl mo_tz; rw [hR]
        rw [if_neg (show ¬ o = 0 from h5), if_neg]
        rintro (z | z)
        · exact h4 z
        · exact z (by rw [e10, nI_clamp (by omega)]; exact h3)
      · have h5 : ¬ o = 0 := fun z => h1 (by rw [z]; rfl)
        unfold mo_tl mo_tz; rw [hR]
        rw [if_neg (show ¬ o = 0 from h5), if_pos]
        exact Or.inr (by rw [e10, nI_clamp (by omega)]; exact h3)
      · have h5 : o = 0 := (nI_eq (b := 0) (by omega) (by omega)).mp h1
        unfold mo_tl mo_tz; rw [hR]
        rw [if_pos (show o = 0 from h5)]
    | succ d ih =>
      intro i o x hi ho hx hres
      obtain ⟨q, hq, he⟩ := hl (6 * kc + i) (by omega)
      have e10 : (10 : Int32) - lt (6 * kc + i) = nI (20 - q) := by rw [he]; exact mo_lm q (by omega)
      rw [mo_to.eq_2, e10, nI_clamp (by omega)] at hres
      refine sg_Mo_told_7 X (fun _ _ _ _ _ _ h => h) (hw_rti X hr hlk) ?_
      unfold vc_Mo_told_7
      refine ⟨_, ⟨_, M, rfl⟩, _, hw_rv A3 hc (by decide) hm, fun h => absurd h (nI_ge (by omega) (by omega)), fun _ => ⟨_, ⟨_, M, rfl⟩, hw_o_of M rfl rfl, hw_ci_0 (by decide) (by decide) (ct_Mo_literalOf l g w H0 (by omega)) (Nat.zero_le _) (Nat.zero_le _) ?_⟩⟩
      rintro r1 w1 ⟨rfl, rfl⟩
      refine ⟨_, hw_rx (20 - q) A7 e10 (by omega) (by decide), fun h1 y hy => ⟨fun _ => ⟨hw_o_of M rfl rfl, hw_ci_0 (by decide) (by decide) (ct_Mo_literalOf l g w1 H0 (by omega)) (Nat.zero_le _) (Nat.zero_le _) ?_⟩, fun h2 => absurd h1 h2⟩, fun h1 => ⟨fun h2 => absurd h2 h1, fun _ => ?_⟩⟩
      · rintro r2 w2 ⟨rfl, rfl⟩
        rw [if_pos h1] at hres
        rw [nI_1] at hy
        subst hy
        rw [nI_1]
        exact ih (i + 1) (o + 1) _ (by omega) (by omega) (hl _ (by omega)) hres
      · rw [if_neg h1] at hres
        rw [nI_1]
        exact ih (i + 1) o x (by omega) (by omega) hx hres
  exact L1 j 0 0 0 (by omega) (Nat.le_refl _) mo_l0 hR
set_option maxHeartbeats 4000000 in
set_option maxRecDepth 100000 in
theorem ct_Mo_follow (l : Launch) (g : hw_G) (w : hw_H) {r : Nat → Nat} {ty wo nx sz ft va cl hg em : Int32} {ch bg en ma lt nu hh kn bf : Nat → Int32} {Lv h p0 : Nat} (H : mo_I g w r ty wo nx sz ft va cl (nI Lv) hg em (nI h) (nI p0) ch bg en ma lt nu hh kn bf) (hLv : Lv ≤ 40) (hh0 : h ≤ 12) (hp : p0 ≤ h) (ha : mo_a ma lt) : hw_Mi l g ym_Mo_follow mw_Mo_follow (hw_R 3 0 0) [.ref (r 9)] w (fun r0 w' => ∃ (p' : Nat) (kn' : Nat → Int32), p0 ≤ p' ∧ p' ≤ h ∧ mo_I g w' r ty wo nx sz ft va cl (nI Lv) hg em (nI h) (nI p') ch bg en ma lt nu hh kn' bf ∧ mo_K w w' r) := by
  refine hw_enteri (r := 3) rfl rfl (by simp [Value.category]) (Nat.le_of_ble_eq_true rfl) ?_
  intro p e s m args below meth c A X hr hlk hnm
  refine sg_Mo_follow_0 X (fun _ _ _ _ _ _ h => h) (hw_rti X hr hlk) ?_
  unfold vc_Mo_follow_0
  have H0 := H
  obtain ⟨D, M, A0, A1, A2, A3, A4, A5, A6, A7, A8⟩ := H
  have L1 : ∀ (d p1 : Nat) (x1 : Int32) (kn1 : Nat → Int32) (w1 : hw_H), p1 + d = h → p0 ≤ p1 → mo_I g w1 r ty wo nx sz ft va cl (nI Lv) hg em (nI h) (nI p1) ch bg en ma lt nu hh kn1 bf → mo_K w w1 r → hw_Ji p l e (hw_R 3 0 0) s m args below meth c 4 g A (fun r0 w' => ∃ (p' : Nat) (kn' : Nat → Int32), p0 ≤ p' ∧ p' ≤ h ∧ mo_I g w' r ty wo nx sz ft va cl (nI Lv) hg em (nI h) (nI p') ch bg en ma lt nu hh kn' bf ∧ mo_K w w' r) 0 0 2 [some (.ref (r 9)), some (.int x1), none, none] [] w1 := by
    intro d
    induction d with
    | zero =>
      intro p1 x1 kn1 w1 hd hpp H1 hK1
      have hi2 : p1 = h := by omega
      subst hi2
      refine sg_Mo_follow_2 X (fun _ _ _ _ _ _ h => h) (hw_rti X hr hlk) ?_
      unfold vc_Mo_follow_2
      exact ⟨_, ⟨_, H1.2.1, rfl⟩, _, ⟨_, H1.2.1, rfl⟩, fun _ => ⟨fun _ => ⟨hw_00, p1, kn1, hpp, Nat.le_refl _, H1, hK1⟩, fun _ => ⟨hw_00, p1, kn1, hpp, Nat.le_refl _, H1, hK1⟩⟩, fun h => absurd (Int32.le_refl _) h⟩
    | succ d ih =>
      intro p1 x1 kn1 w1 hd hpp H1 hK1
      have NX : ∀ (x1 : Int32) (kn2 : Nat → Int32) (w2 : hw_H), mo_I g w2 r ty wo nx sz ft va cl (nI Lv) hg em (nI h) (nI p1) ch bg en ma lt nu hh kn2 bf → mo_K w w2 r → hw_Ji p l e (hw_R 3 0 0) s m args below meth c 4 g A (fun r0 w' => ∃ (p' : Nat) (kn' : Nat → Int32), p0 ≤ p' ∧ p' ≤ h ∧ mo_I g w' r ty wo nx sz ft va cl (nI Lv) hg em (nI h) (nI p') ch bg en ma lt nu hh kn' bf ∧ mo_K w w' r) 0 0 2 [some (.ref (r 9)), some (.int x1), none, none] [] (va_up w2 (r 9) (some (mo_g r ty wo nx sz ft va cl (nI Lv) hg em (nI h) (nI (p1 + 1))))) := by
        intro x1 kn2 w2 H2 hK2
        exact ih (p1 + 1) x1 kn2 _ (by omega) (by omega) (mo_u9 ty wo nx sz ft va cl (nI Lv) hg em (nI h) (nI (p1 + 1)) H2) (mo_K_u hK2 (by decide))
      have N60 : ∀ (x2 u : Int32), (u = 0 ∨ u = 99 ∨ ∃ q : Nat, q ≤ 20 ∧ u = nI (q + 1)) → hw_Ji p l e (hw_R 3 0 0) s m args below meth c 4 g A (fun r0 w' => ∃ (p' : Nat) (kn' : Nat → Int32), p0 ≤ p' ∧ p' ≤ h ∧ mo_I g w' r ty wo nx sz ft va cl (nI Lv) hg em (nI h) (nI p') ch bg en ma lt nu hh kn' bf ∧ mo_K w w' r) 0 0 60 [some (.ref (r 9)), some (.int (0 : Int32)), some (.int x2), none] [.int u] w1 := by
        intro x2 u hu
        refine sg_Mo_follow_60 X (fun _ _ _ _ _ _ h => h) (hw_rti X hr hlk) ?_
        unfold vc_Mo_follow_60
        rcases hu with rfl | rfl | ⟨q, hq, rfl⟩
        · refine ⟨fun _ => ⟨fun z => absurd rfl z, fun _ => ⟨fun _ => ⟨_, ⟨_, H1.2.1, rfl⟩, _, ⟨_, H1.2.1, Nat.le_of_ble_eq_true rfl, rfl⟩, ?_⟩, fun z => absurd (Int32.le_refl _) z⟩⟩, fun z => absurd z (by decide)⟩
          rw [nI_1]
          exact NX _ kn1 w1 H1 hK1
        · exact ⟨fun z => absurd rfl z, fun _ => ⟨hw_00, p1, kn1, hpp, by omega, H1, hK1⟩⟩
        · have e1 : ¬ nI (q + 1) = 0 := nI_ne0 (by omega) (by omega)
          have e2 : ¬ nI (q + 1) ≤ 0 := nI_nle (by omega) (by omega)
          have e9 : ¬ nI (q + 1) = 99 := fun z => absurd ((nI_eq (b := 99) (by omega) (by omega)).mp z) (by omega)
          refine ⟨fun _ => ⟨fun _ => ⟨fun z => absurd z e2, fun _ => ⟨_, ⟨_, H1.2.1, rfl⟩, _, hw_wx q H1.2.2.2.2.2.2.2.2.2.1 (nI_pred q) (by omega) (by decide), ?_⟩⟩, fun z => absurd z e1⟩, fun z => absurd z e9⟩
          have H2 := mo_u7 (upd kn1 q (vp_nar .boolean (1 : Int32))) H1
          refine ⟨_, ⟨_, H2.2.1, rfl⟩, _, ⟨_, H2.2.1, Nat.le_of_ble_eq_true rfl, rfl⟩, ?_⟩
          rw [nI_1]
          exact NX _ _ _ H2 (mo_K_u hK1 (by decide))
      refine sg_Mo_follow_2 X (fun _ _ _ _ _ _ h => h) (hw_rti X hr hlk) ?_
      unfold vc_Mo_follow_2
      refine ⟨_, ⟨_, H1.2.1, rfl⟩, _, ⟨_, H1.2.1, rfl⟩, fun h => absurd h (nI_ge (by omega) (by omega)), fun _ => ⟨_, ⟨_, H1.2.1, rfl⟩, _, ⟨_, H1.2.1, rfl⟩, _, hw_rd H1.2.2.2.2.2.2.2.2.1 (by omega) (by decide), fun _ => ⟨fun _ => ⟨hw_00, p1, kn1, hpp, by omega, H1, hK1⟩, fun _ => ⟨hw_00, p1, kn1, hpp, by omega, H1, hK1⟩⟩, fun _ => ⟨fun _ => ⟨_, ⟨_, H1.2.1, rfl⟩, _, ⟨_, H1.2.1, Nat.le_of_ble_eq_true rfl, rfl⟩, ?_⟩, fun hx1 => ⟨_, ⟨_, H1.2.1, rfl⟩, _, ⟨_, H1.2.1, rfl⟩, _, hw_rd H1.2.2.2.2.2.2.2.2.1 (by omega) (by decide), hw_o_of H1.2.1 rfl rfl, hw_ci_0 (by decide) (by decide) (ct_Mo_find l g w1 H1 hLv) (Nat.zero_le _) (Nat.zero_le _) ?_⟩⟩⟩⟩
      · rw [nI_1]
        exact NX _ kn1 w1 H1 hK1
      subst hx1
      rintro r2 w2 ⟨rfl, hcase⟩
      rcases hcase with ⟨rfl, -⟩ | ⟨i, hi, rfl, -⟩
      · exact ⟨fun z => absurd z (by decide), fun _ => N60 _ _ (Or.inr (Or.inl rfl))⟩
      · obtain ⟨j, hj, hm⟩ := ha.1 (24 + i) (by omega)
        rw [show (24 : Int32) + nI i = nI (24 + i) from nI_add 24 i]
        refine ⟨fun _ => ⟨hw_o_of H1.2.1 rfl rfl, hw_ci_0 (by decide) (by decide) (ct_Mo_told l g w2 H1 (by omega) hm hj ha.2) (Nat.zero_le _) (Nat.zero_le _) ?_⟩, fun z => absurd (nI_pos' (by omega)) z⟩
        rintro r3 w3 ⟨rfl, rfl⟩
        refine N60 _ _ ?_
        rcases mo_tl_s (lt := lt) (kn := kn1) (j := j) (p := 6 * (24 + i)) (fun i2 hi2 => ha.2 _ (by omega)) with z | z | ⟨q, z1, z2, z3⟩
        · exact Or.inl z
        · exact Or.inr (Or.inl z)
        · exact Or.inr (Or.inr ⟨q, z1, z2⟩)
  exact L1 (h - p0) p0 0 kn w (by omega) (Nat.le_refl _) H0 mo_K_r
set_option maxHeartbeats 4000000 in
set_option maxRecDepth 100000 in
theorem ct_Mo_suppose (l : Launch) (g : hw_G) (w : hw_H) {r : Nat → Nat} {ty wo nx sz ft va cl lv hg em hn pl : Int32} {ch bg en ma lt nu hh kn bf : Nat → Int32} {kc j : Nat} {x : Int32} (H : mo_I g w r ty wo nx sz ft va cl lv hg em hn pl ch bg en ma lt nu hh kn bf) (hc : kc < 89) (hm : ma kc = nI j) (hj : j ≤ 6) (hl : ∀ i, i < 534 → mo_l (lt i)) : hw_Mi l g ym_Mo_suppose mw_Mo_suppose (hw_R 2 0 0) [.ref (r 9), .int (nI kc), .int x] w (fun r0 w' => ∃ kn' : Nat → Int32, mo_I g w' r ty wo nx sz ft va cl lv hg em hn pl ch bg en ma lt nu hh kn' bf ∧ mo_K w w' r) := by
  refine hw_enteri (r := 2) rfl rfl (by simp [Value.category]) (Nat.le_of_ble_eq_true rfl) ?_
  intro p e s m args below meth c A X hr hlk hnm
  refine sg_Mo_suppose_0 X (fun _ _ _ _ _ _ h => h) (hw_rtz X hr hlk) ?_
  unfold vc_Mo_suppose_0
  have H0 := H
  obtain ⟨D, M, A0, A1, A2, A3, A4, A5, A6, A7, A8⟩ := H
  have L94 : ∀ (d i : Nat) (b : Bool) (kn1 : Nat → Int32) (w1 : hw_H), i + d = j → mo_I g w1 r ty wo nx sz ft va cl lv hg em hn pl ch bg en ma lt nu hh kn1 bf → mo_K w w1 r → hw_Ji p l e (hw_R 2 0 0) s m args below meth c 5 g A (fun r0 w' => ∃ kn' : Nat → Int32, mo_I g w' r ty wo nx sz ft va cl lv hg em hn pl ch bg en ma lt nu hh kn' bf ∧ mo_K w w' r) 0 0 94 [some (.ref (r 9)), some (.int (nI kc)), some (.int x), some (.int (hw_z b)), some (.int (nI i))] [] w1 := by
    intro d
    induction d with
    | zero =>
      intro i b kn1 w1 hi H1 hK1
      have hi2 : i = j := by omega
      subst hi2
      refine sg_Mo_suppose_94 X (fun _ _ _ _ _ _ h => h) (hw_rtz X hr hlk) ?_
      unfold vc_Mo_suppose_94
      exact ⟨_, ⟨_, H1.2.1, rfl⟩, _, hw_rv H1.2.2.2.2.2.1 hc (by decide) hm, fun _ => ⟨hw_00, hw_z_b _, kn1, H1, hK1⟩, fun h => absurd (Int32.le_refl _) h⟩
    | succ d ih =>
      intro i b kn1 w1 hi H1 hK1
      obtain ⟨q, hq, he⟩ := hl (6 * kc + i) (by omega)
      have e10 : (10 : Int32) - lt (6 * kc + i) = nI (20 - q) := by rw [he]; exact mo_lm q (by omega)
      refine sg_Mo_suppose_94 X (fun _ _ _ _ _ _ h => h) (hw_rtz X hr hlk) ?_
      unfold vc_Mo_suppose_94
      refine ⟨_, ⟨_, H1.2.1, rfl⟩, _, hw_rv H1.2.2.2.2.2.1 hc (by decide) hm, fun h => absurd h (nI_ge (by omega) (by omega)), fun _ => ⟨fun _ => ⟨hw_00, hw_z_b _, kn1, H1, hK1⟩, fun _ => ⟨hw_o_of H1.2.1 rfl rfl, hw_ci_0 (by decide) (by decide) (ct_Mo_literalOf l g w1 H1 (by omega)) (Nat.zero_le _) (Nat.zero_le _) ?_⟩⟩⟩
      rintro r1 w2 ⟨rfl, rfl⟩
      refine ⟨fun _ => ?_, fun _ => ⟨_, ⟨_, H1.2.1, rfl⟩, hw_o_of H1.2.1 rfl rfl, hw_ci_0 (by decide) (by decide) (ct_Mo_literalOf l g w2 H1 (by omega)) (Nat.zero_le _) (Nat.zero_le _) ?_⟩⟩
      · rw [nI_1]
        exact ih (i + 1) b kn1 w2 (by omega) H1 hK1
      rintro r1 w3 ⟨rfl, rfl⟩
      refine ⟨_, hw_wx (20 - q) H1.2.2.2.2.2.2.2.2.2.1 e10 (by omega) (by decide), ?_⟩
      rw [nI_1]
      exact ih (i + 1) b _ _ (by omega) (mo_u7 _ H1) (mo_K_u hK1 (by decide))
  have L35 : ∀ (d i : Nat) (b : Bool) (kn1 : Nat → Int32) (w1 : hw_H), i + d = j → mo_I g w1 r ty wo nx sz ft va cl lv hg em hn pl ch bg en ma lt nu hh kn1 bf → mo_K w w1 r → hw_Ji p l e (hw_R 2 0 0) s m args below meth c 5 g A (fun r0 w' => ∃ kn' : Nat → Int32, mo_I g w' r ty wo nx sz ft va cl lv hg em hn pl ch bg en ma lt nu hh kn' bf ∧ mo_K w w' r) 0 0 35 [some (.ref (r 9)), some (.int (nI kc)), some (.int x), some (.int (hw_z b)), some (.int (nI i))] [] w1 := by
    intro d
    induction d with
    | zero =>
      intro i b kn1 w1 hi H1 hK1
      have hi2 : i = j := by omega
      subst hi2
      refine sg_Mo_suppose_35 X (fun _ _ _ _ _ _ h => h) (hw_rtz X hr hlk) ?_
      unfold vc_Mo_suppose_35
      exact ⟨_, ⟨_, H1.2.1, rfl⟩, _, hw_rv H1.2.2.2.2.2.1 hc (by decide) hm, fun _ => L94 i 0 b kn1 w1 (by omega) H1 hK1, fun h => absurd (Int32.le_refl _) h⟩
    | succ d ih =>
      intro i b kn1 w1 hi H1 hK1
      obtain ⟨q, hq, he⟩ := hl (6 * kc + i) (by omega)
      have e10 : (10 : Int32) + lt (6 * kc + i) = nI q := by rw [he]; exact mo_lp q (by omega)
      refine sg_Mo_suppose_35 X (fun _ _ _ _ _ _ h => h) (hw_rtz X hr hlk) ?_
      unfold vc_Mo_suppose_35
      refine ⟨_, ⟨_, H1.2.1, rfl⟩, _, hw_rv H1.2.2.2.2.2.1 hc (by decide) hm, fun h => absurd h (nI_ge (by omega) (by omega)), fun _ => ⟨fun _ => ?_, fun _ => ⟨hw_o_of H1.2.1 rfl rfl, hw_ci_0 (by decide) (by decide) (ct_Mo_literalOf l g w1 H1 (by omega)) (Nat.zero_le _) (Nat.zero_le _) ?_⟩⟩⟩
      · rw [nI_1]
        exact ih (i + 1) true kn1 w1 (by omega) H1 hK1
      rintro r1 w2 ⟨rfl, rfl⟩
      refine ⟨fun _ => ?_, fun _ => ⟨_, ⟨_, H1.2.1, rfl⟩, hw_o_of H1.2.1 rfl rfl, hw_ci_0 (by decide) (by decide) (ct_Mo_literalOf l g w2 H1 (by omega)) (Nat.zero_le _) (Nat.zero_le _) ?_⟩⟩
      · rw [nI_1]
        exact ih (i + 1) false kn1 w2 (by omega) H1 hK1
      rintro r1 w3 ⟨rfl, rfl⟩
      refine ⟨_, hw_rx q H1.2.2.2.2.2.2.2.2.2.1 e10 (by omega) (by decide), fun _ => ?_, fun _ => ?_⟩
      · rw [nI_1]
        exact ih (i + 1) false kn1 w3 (by omega) H1 hK1
      · rw [nI_1]
        exact ih (i + 1) true kn1 w3 (by omega) H1 hK1
  have L5 : ∀ (d i : Nat) (b : Bool) (kn1 : Nat → Int32) (w1 : hw_H), i + d = 21 → mo_I g w1 r ty wo nx sz ft va cl lv hg em hn pl ch bg en ma lt nu hh kn1 bf → mo_K w w1 r → hw_Ji p l e (hw_R 2 0 0) s m args below meth c 5 g A (fun r0 w' => ∃ kn' : Nat → Int32, mo_I g w' r ty wo nx sz ft va cl lv hg em hn pl ch bg en ma lt nu hh kn' bf ∧ mo_K w w' r) 0 0 5 [some (.ref (r 9)), some (.int (nI kc)), some (.int x), some (.int (hw_z b)), some (.int (nI i))] [] w1 := by
    intro d
    induction d with
    | zero =>
      intro i b kn1 w1 hi H1 hK1
      have hi2 : i = 21 := by omega
      subst hi2
      refine sg_Mo_suppose_5 X (fun _ _ _ _ _ _ h => h) (hw_rtz X hr hlk) ?_
      unfold vc_Mo_suppose_5
      exact ⟨fun _ => L35 j 0 b kn1 w1 (by omega) H1 hK1, fun h => absurd (Int32.le_refl _) h⟩
    | succ d ih =>
      intro i b kn1 w1 hi H1 hK1
      refine sg_Mo_suppose_5 X (fun _ _ _ _ _ _ h => h) (hw_rtz X hr hlk) ?_
      unfold vc_Mo_suppose_5
      refine ⟨fun h => absurd h (nI_ge (b := 21) (by omega) (by omega)), fun _ => ⟨_, ⟨_, H1.2.1, rfl⟩, _, ⟨_, H1.2.1, rfl⟩, _, hw_rd H1.2.2.2.2.2.2.2.2.2.2 (by omega) (by decide), _, hw_wr H1.2.2.2.2.2.2.2.2.2.1 (by omega) (by decide), ?_⟩⟩
      rw [nI_1]
      exact ih (i + 1) b _ _ (by omega) (mo_u7 _ H1) (mo_K_u hK1 (by decide))
  exact L5 21 0 false kn w rfl H0 mo_K_r
