/-- one walk over the clauses: none where one is false; else what is known then, and whether something was learned -/
def mo_pf (ma lt : Nat → Int32) : Nat → Nat → (Nat → Int32) → Bool → Option ((Nat → Int32) × Bool)
  | 0, _, kn, b => some (kn, b)
  | d + 1, k, kn, b => if mo_tl lt kn (ma k).toNatClampNeg (6 * k) = 0 then none else if mo_tl lt kn (ma k).toNatClampNeg (6 * k) = 99 then mo_pf ma lt d (k + 1) kn b else mo_pf ma lt d (k + 1) (upd kn (mo_tl lt kn (ma k).toNatClampNeg (6 * k) - 1).toNatClampNeg 1) true
def mo_pn (cont : (Nat → Int32) → Option (Nat → Int32)) : Option ((Nat → Int32) × Bool) → Option (Nat → Int32)
  | none => none
  | some (kn, false) => some kn
  | some (kn, true) => cont kn
def mo_pw (ma lt : Nat → Int32) (kc : Nat) : Nat → (Nat → Int32) → Option (Nat → Int32)
  | 0, kn => some kn
  | D + 1, kn => mo_pn (mo_pw ma lt kc D) (mo_pf ma lt kc 0 kn false)
def mo_nz (kn : Nat → Int32) : Nat → Nat → Nat
  | 0, _ => 0
  | d + 1, i => (if kn i = 0 then 0 else 1) + mo_nz kn d (i + 1)
/-- what is known at first -/
def mo_k0 (x y : Int32) : Nat → Int32 := fun j => if j = 10 then 0 else if ¬ x = 0 ∧ (10 + x).toNatClampNeg = j then 1 else if ¬ y = 0 ∧ (10 + y).toNatClampNeg = j then 1 else 0
def mo_fz (o : Option (Nat → Int32)) : Int32 := match o with
  | none => -1
  | some kn => nI (mo_nz kn 21 0)
def mo_fx (ma lt : Nat → Int32) (v kc : Nat) (x y : Int32) : Int32 := if co_lt v x = true ∧ co_lt v y = true ∧ ¬ (¬ x = 0 ∧ x = -y) then mo_fz (mo_pw ma lt kc 22 (mo_k0 x y)) else -2
theorem mo_tl_e {lt kn kn' : Nat → Int32} {j p : Nat} (h : ∀ i, i < 21 → kn' i = kn i) (hl : ∀ i, i < j → mo_l (lt (p + i))) : mo_tl lt kn' j p = mo_tl lt kn j p := by
  have e : ∀ (d p o : Nat) (x : Int32), (∀ i, i < d → mo_l (lt (p + i))) → mo_to lt kn' d p o x = mo_to lt kn d p o x := by
    intro d
    induction d with
    | zero => intro p o x _; rfl
    | succ d ih =>
      intro p o x hl
      have h1 : ∀ i, i < d → mo_l (lt (p + 1 + i)) := fun i hi => by
        have := hl (i + 1) (by omega)
        rw [show p + 1 + i = p + (i + 1) by omega]; exact this
      obtain ⟨q, hq, he⟩ := hl 0 (by omega)
      rw [Nat.add_zero] at he
      have e10 : ((10 : Int32) - lt p).toNatClampNeg = 20 - q := by rw [he, mo_lm q (by omega), nI_clamp (by omega)]
      rw [mo_to.eq_2, mo_to.eq_2, e10, h _ (by omega), ih _ _ _ h1, ih _ _ _ h1]
  unfold mo_tl
  rw [e j p 0 0 hl]
  have hm := mo_to_l (kn := kn) j p 0 0 hl mo_l0
  generalize mo_to lt kn j p 0 0 = y at hm
  unfold mo_tz
  obtain ⟨q, hq, he⟩ := hm
  rw [he, mo_lp q (by omega), nI_clamp (by omega), h q (by omega)]
set_option maxHeartbeats 4000000 in
set_option maxRecDepth 100000 in
theorem ct_Mo_forcedX (l : Launch) (g : hw_G) (w : hw_H) {r : Nat → Nat} {ty wo nx sz ft lv hg em hn pl : Int32} {ch bg en ma lt nu hh kn bf : Nat → Int32} {kc v : Nat} {x y : Int32} (H : mo_I g w r ty wo nx sz ft (nI v) (nI kc) lv hg em hn pl ch bg en ma lt nu hh kn bf) (hc : kc ≤ 24) (ha : mo_a ma lt) (hv : v ≤ 10) : hw_Mi l g ym_Mo_forced mw_Mo_forced (hw_R 3 0 0) [.ref (r 9), .int x, .int y] w (fun r0 w' => r0 = mo_fx ma lt v kc x y ∧ ∃ kn' : Nat → Int32, mo_I g w' r ty wo nx sz ft (nI v) (nI kc) lv hg em hn pl ch bg en ma lt nu hh kn' bf ∧ mo_K w w' r) := by
  refine hw_enteri (r := 3) rfl rfl (by simp [Value.category]) (Nat.le_of_ble_eq_true rfl) ?_
  intro p e s m args below meth c A X hr hlk hnm
  refine sg_Mo_forced_0 X (fun _ _ _ _ _ _ h => h) (hw_rti X hr hlk) ?_
  unfold vc_Mo_forced_0
  have H0 := H
  obtain ⟨D, M, A0, A1, A2, A3, A4, A5, A6, A7, A8⟩ := H
  generalize hFX : mo_fx ma lt v kc x y = FX
  have L174 : ∀ (kn1 : Nat → Int32) (x3 : Int32) (d i n0 : Nat) (w1 : hw_H), i + d = 21 → nI (n0 + mo_nz kn1 d i) = FX → mo_I g w1 r ty wo nx sz ft (nI v) (nI kc) lv hg em hn pl ch bg en ma lt nu hh kn1 bf → mo_K w w1 r → hw_Ji p l e (hw_R 3 0 0) s m args below meth c 6 g A (fun r0 w' => r0 = FX ∧ ∃ kn' : Nat → Int32, mo_I g w' r ty wo nx sz ft (nI v) (nI kc) lv hg em hn pl ch bg en ma lt nu hh kn' bf ∧ mo_K w w' r) 0 0 174 [some (.ref (r 9)), some (.int x), some (.int y), some (.int x3), some (.int (nI n0)), some (.int (nI i))] [] w1 := by
    intro kn1 x3 d
    induction d with
    | zero =>
      intro i n0 w1 hi hres H1 hK1
      have hi2 : i = 21 := by omega
      subst hi2
      refine sg_Mo_forced_174 X (fun _ _ _ _ _ _ h => h) (hw_rti X hr hlk) ?_
      unfold vc_Mo_forced_174
      exact ⟨fun _ => ⟨hw_00, hres, kn1, H1, hK1⟩, fun h => absurd (Int32.le_refl _) h⟩
    | succ d ih =>
      intro i n0 w1 hi hres H1 hK1
      rw [mo_nz.eq_2] at hres
      refine sg_Mo_forced_174 X (fun _ _ _ _ _ _ h => h) (hw_rti X hr hlk) ?_
      unfold vc_Mo_forced_174
      refine ⟨fun h => absurd h (nI_ge (b := 21) (by omega) (by omega)), fun _ => ⟨_, ⟨_, H1.2.1, rfl⟩, _, hw_rd H1.2.2.2.2.2.2.2.2.2.1 (by omega) (by decide), fun h => ?_, fun h y3 hy => ?_⟩⟩
      · rw [if_pos h, Nat.zero_add] at hres
        rw [nI_1]
        exact ih (i + 1) n0 w1 (by omega) hres H1 hK1
      · rw [if_neg h, ← Nat.add_assoc] at hres
        rw [nI_1] at hy
        subst hy
        rw [nI_1]
        exact ih (i + 1) (n0 + 1) w1 (by omega) hres H1 hK1
  have L107 : ∀ (D : Nat) (kn0 kn1 : Nat → Int32) (w1 : hw_H), mo_cz kn1 21 < D → (∀ i, i < 21 → kn1 i = kn0 i) → mo_fz (mo_pw ma lt kc D kn0) = FX → mo_I g w1 r ty wo nx sz ft (nI v) (nI kc) lv hg em hn pl ch bg en ma lt nu hh kn1 bf → mo_K w w1 r → hw_Ji p l e (hw_R 3 0 0) s m args below meth c 6 g A (fun r0 w' => r0 = FX ∧ ∃ kn' : Nat → Int32, mo_I g w' r ty wo nx sz ft (nI v) (nI kc) lv hg em hn pl ch bg en ma lt nu hh kn' bf ∧ mo_K w w' r) 0 0 107 [some (.ref (r 9)), some (.int x), some (.int y), some (.int (1 : Int32)), none, none] [] w1 := by
    intro D
    induction D with
    | zero => intro kn0 kn1 w1 z; omega
    | succ D ihD =>
      intro kn0 kn1 w1 hcz hk01 hres H1 hK1
      rw [mo_pw.eq_2] at hres
      have L116 : ∀ (d k : Nat) (b : Bool) (kn3 kn2 : Nat → Int32) (w2 : hw_H), k + d = kc → (b = false → mo_cz kn2 21 < D + 1) → (b = true → mo_cz kn2 21 < D) → (∀ i, i < 21 → kn2 i = kn3 i) → mo_fz (mo_pn (mo_pw ma lt kc D) (mo_pf ma lt d k kn3 b)) = FX → mo_I g w2 r ty wo nx sz ft (nI v) (nI kc) lv hg em hn pl ch bg en ma lt nu hh kn2 bf → mo_K w w2 r → hw_Ji p l e (hw_R 3 0 0) s m args below meth c 6 g A (fun r0 w' => r0 = FX ∧ ∃ kn' : Nat → Int32, mo_I g w' r ty wo nx sz ft (nI v) (nI kc) lv hg em hn pl ch bg en ma lt nu hh kn' bf ∧ mo_K w w' r) 0 0 116 [some (.ref (r 9)), some (.int x), some (.int y), some (.int (hw_z b)), some (.int (nI k)), none] [] w2 := by
        intro d
        induction d with
        | zero =>
          intro k b kn3 kn2 w2 hk c1 c2 hk23 hres2 H2 hK2
          have hi2 : k = kc := by omega
          subst hi2
          refine sg_Mo_forced_116 X (fun _ _ _ _ _ _ h => h) (hw_rti X hr hlk) ?_
          unfold vc_Mo_forced_116
          refine ⟨_, ⟨_, H2.2.1, rfl⟩, fun _ => ?_, fun h => absurd (Int32.le_refl _) h⟩
          cases b with
          | false =>
            have hres2 : nI (mo_nz kn3 21 0) = FX := hres2
            have e9 : ∀ (d i : Nat), i + d ≤ 21 → mo_nz kn2 d i = mo_nz kn3 d i := by
              intro d
              induction d with
              | zero => intro i _; rfl
              | succ d ih => intro i hi; rw [mo_nz.eq_2, mo_nz.eq_2, hk23 i (by omega), ih (i + 1) (by omega)]
            refine sg_Mo_forced_107 X (fun _ _ _ _ _ _ h => h) (hw_rti X hr hlk) ?_
            unfold vc_Mo_forced_107
            exact ⟨fun _ => L174 kn2 _ 21 0 0 w2 rfl (by rw [Nat.zero_add, e9 21 0 (by omega)]; exact hres2) H2 hK2, fun h => absurd rfl h⟩
          | true => exact ihD kn3 kn2 w2 (c2 rfl) hk23 hres2 H2 hK2
        | succ d ih =>
          intro k b kn3 kn2 w2 hk c1 c2 hk23 hres2 H2 hK2
          obtain ⟨j, hj, hm⟩ := ha.1 k (by omega)
          rw [mo_pf.eq_2, hm, nI_clamp (by omega)] at hres2
          have hl6 : ∀ i, i < j → mo_l (lt (6 * k + i)) := fun i2 hi2 => ha.2 _ (by omega)
          refine sg_Mo_forced_116 X (fun _ _ _ _ _ _ h => h) (hw_rti X hr hlk) ?_
          unfold vc_Mo_forced_116
          refine ⟨_, ⟨_, H2.2.1, rfl⟩, fun h => absurd h (nI_ge (by omega) (by omega)), fun _ => ⟨hw_o_of H2.2.1 rfl rfl, hw_ci_0 (by decide) (by decide) (ct_Mo_told l g w2 H2 (by omega) hm hj ha.2) (Nat.zero_le _) (Nat.zero_le _) ?_⟩⟩
          rintro r3 w3 ⟨hr3, rfl⟩
          have hs := mo_tl_s (lt := lt) (kn := kn2) (j := j) (p := 6 * k) hl6
          rw [mo_tl_e hk23 hl6] at hr3 hs
          rw [← hr3] at hs hres2
          clear hr3
          rcases hs with rfl | rfl | ⟨q, hq, rfl, hz⟩
          · rw [if_pos rfl] at hres2
            have hres2 : (-1 : Int32) = FX := hres2
            exact ⟨fun z => absurd rfl z, fun _ => ⟨hw_00, hres2, kn2, H2, hK2⟩⟩
          · rw [if_neg (by decide), if_pos rfl] at hres2
            refine ⟨fun _ => ⟨fun _ => ?_, fun z => absurd (Int32.le_refl _) z⟩, fun z => absurd z (by decide)⟩
            rw [nI_1]
            exact ih (k + 1) b kn3 kn2 w3 (by omega) c1 c2 hk23 hres2 H2 hK2
          · have e1 : ¬ nI (q + 1) = 0 := nI_ne0 (by omega) (by omega)
            have e9 : ¬ nI (q + 1) = 99 := fun z => absurd ((nI_eq (b := 99) (by omega) (by omega)).mp z) (by omega)
            rw [if_neg e1, if_neg e9, nI_pred, nI_clamp (by omega)] at hres2
            refine ⟨fun _ => ⟨fun z => absurd z (nI_ge (b := 99) (by omega) (by omega)), fun _ => ⟨_, ⟨_, H2.2.1, rfl⟩, _, hw_wx q H2.2.2.2.2.2.2.2.2.2.1 (nI_pred q) (by omega) (by decide), ?_⟩⟩, fun z => absurd z e1⟩
            rw [nI_1]
            have hz2 := (mo_cz_u (kn := kn2) (q := q) (x := vp_nar .boolean (1 : Int32)) (by decide) 21).1 (by omega) hz
            refine ih (k + 1) true _ _ _ (by omega) (fun z => by cases z) (fun _ => ?_) (fun i hi => ?_) hres2 (mo_u7 _ H2) (mo_K_u hK2 (by decide))
            · cases b with
              | false => have := c1 rfl; omega
              | true => have := c2 rfl; omega
            · by_cases hiq : i = q
              · subst hiq; rw [pk_us, pk_us]; rfl
              · rw [pk_un hiq, pk_un hiq]; exact hk23 i hi
      refine sg_Mo_forced_107 X (fun _ _ _ _ _ _ h => h) (hw_rti X hr hlk) ?_
      unfold vc_Mo_forced_107
      exact ⟨fun h => absurd h (by decide), fun _ => L116 kc 0 false kn0 kn1 w1 (by omega) (fun _ => hcz) (fun z => by cases z) hk01 hres H1 hK1⟩
  have G45 : mo_l x → mo_l y → mo_fz (mo_pw ma lt kc 22 (mo_k0 x y)) = FX → hw_Ji p l e (hw_R 3 0 0) s m args below meth c 6 g A (fun r0 w' => r0 = FX ∧ ∃ kn' : Nat → Int32, mo_I g w' r ty wo nx sz ft (nI v) (nI kc) lv hg em hn pl ch bg en ma lt nu hh kn' bf ∧ mo_K w w' r) 0 0 45 [some (.ref (r 9)), some (.int x), some (.int y), none, none, none] [] w := by
    rintro ⟨qx, hx1, hx2⟩ ⟨qy, hy1, hy2⟩ hres
    have ex : (10 : Int32) + x = nI qx := by rw [hx2]; exact mo_lp qx (by omega)
    have ey : (10 : Int32) + y = nI qy := by rw [hy2]; exact mo_lp qy (by omega)
    have ex2 : (10 + x).toNatClampNeg = qx := by rw [ex]; exact nI_clamp (by omega)
    have ey2 : (10 + y).toNatClampNeg = qy := by rw [ey]; exact nI_clamp (by omega)
    have ez : ∀ q : Nat, q ≤ 20 → (nI q - 10 = 0 ↔ q = 10) := by
      intro q hq
      have : ∀ q, q < 21 → (nI q - 10 = 0 ↔ q = 10) := by decide
      exact this q (by omega)
    have hxz : x = 0 ↔ qx = 10 := by rw [hx2]; exact ez qx hx1
    have hyz : y = 0 ↔ qy = 10 := by rw [hy2]; exact ez qy hy1
    refine sg_Mo_forced_45 X (fun _ _ _ _ _ _ h => h) (hw_rti X hr hlk) ?_
    unfold vc_Mo_forced_45
    refine ⟨hw_o_of M rfl rfl, hw_cv_0 (by decide) (by decide) (ct_Mo_forget l g w H0) (Nat.zero_le _) (Nat.zero_le _) ?_⟩
    rintro w1 ⟨kn1, hkz, H1, hK1⟩
    have HA := fun z : Int32 => mo_u7 (upd kn1 qx z) H1
    have HB := fun z z2 : Int32 => mo_u7 (upd (upd kn1 qx z) qy z2) (HA z)
    have HC := fun z z2 z3 : Int32 => mo_u7 (upd (upd (upd kn1 qx z) qy z2) 10 z3) (HB z z2)
    have KA : ∀ {w2 : hw_H} {e1 : Option va_E}, mo_K w w2 r → mo_K w (va_up w2 (r 7) e1) r := fun z => mo_K_u z (by decide)
    have K0 : ∀ z z2 z3 : Int32, z3 = 0 → (z = if x = 0 then 0 else 1) → (¬ y = 0 → z2 = 1) → ∀ j, j < 21 → (upd (upd (upd kn1 qx z) qy z2) 10 z3) j = mo_k0 x y j := by
      intro z z2 z3 hz3 hz hz2 j hj
      unfold mo_k0
      rw [ex2, ey2]
      by_cases hj10 : j = 10
      · subst hj10; rw [pk_us, if_pos rfl]; exact hz3
      rw [pk_un hj10, if_neg hj10]
      by_cases hjy : j = qy
      · subst hjy
        have hy0 : ¬ y = 0 := fun z => hj10 (hyz.mp z)
        rw [pk_us, hz2 hy0]
        by_cases hjx : ¬ x = 0 ∧ qx = j
        · rw [if_pos hjx]
        · rw [if_neg hjx, if_pos ⟨hy0, rfl⟩]
      rw [pk_un hjy]
      by_cases hjx : j = qx
      · subst hjx
        have hx0 : ¬ x = 0 := fun z => hj10 (hxz.mp z)
        rw [pk_us, hz, if_neg hx0, if_pos ⟨hx0, rfl⟩]
      · rw [pk_un hjx, hkz j hj, if_neg (fun z => hjx z.2.symm), if_neg (fun z => hjy z.2.symm)]
    have G107 : ∀ (kn2 : Nat → Int32) (w2 : hw_H), (∀ j, j < 21 → kn2 j = mo_k0 x y j) → mo_I g w2 r ty wo nx sz ft (nI v) (nI kc) lv hg em hn pl ch bg en ma lt nu hh kn2 bf → mo_K w w2 r → hw_Ji p l e (hw_R 3 0 0) s m args below meth c 6 g A (fun r0 w' => r0 = FX ∧ ∃ kn' : Nat → Int32, mo_I g w' r ty wo nx sz ft (nI v) (nI kc) lv hg em hn pl ch bg en ma lt nu hh kn' bf ∧ mo_K w w' r) 0 0 107 [some (.ref (r 9)), some (.int x), some (.int y), some (.int (1 : Int32)), none, none] [] w2 := fun kn2 w2 h2 H2 hK2 => L107 22 (mo_k0 x y) kn2 w2 (by have := mo_cz_b kn2 21; omega) h2 hres H2 hK2
    have b0 : vp_nar .boolean (0 : Int32) = 0 := by decide
    have b1 : vp_nar .boolean (1 : Int32) = 1 := by decide
    refine ⟨_, ⟨_, H1.2.1, rfl⟩, fun hx0 => ⟨_, hw_wx qx H1.2.2.2.2.2.2.2.2.2.1 ex (by omega) (by decide), _, ⟨_, (HA _).2.1, rfl⟩, fun hy0 => ⟨_, hw_wx qy (HA _).2.2.2.2.2.2.2.2.2.1 ey (by omega) (by decide), _, ⟨_, (HB _ _).2.1, rfl⟩, _, hw_wx 10 (HB _ _).2.2.2.2.2.2.2.2.2.1 rfl (by decide) (by decide), G107 _ _ (K0 _ _ _ b0 (b0.trans (if_pos hx0).symm) (fun _ => b1)) (HC _ _ _) (KA (KA (KA hK1)))⟩, fun hy0 => ⟨_, ⟨_, (HA _).2.1, rfl⟩, _, hw_rx qy (HA _).2.2.2.2.2.2.2.2.2.1 ey (by omega) (by decide), fun _ => ⟨_, hw_wx qy (HA _).2.2.2.2.2.2.2.2.2.1 ey (by omega) (by decide), _, ⟨_, (HB _ _).2.1, rfl⟩, _, hw_wx 10 (HB _ _).2.2.2.2.2.2.2.2.2.1 rfl (by decide) (by decide), G107 _ _ (K0 _ _ _ b0 (b0.trans (if_pos hx0).symm) (fun z => absurd hy0 z)) (HC _ _ _) (KA (KA (KA hK1)))⟩, fun _ => ⟨_, hw_wx qy (HA _).2.2.2.2.2.2.2.2.2.1 ey (by omega) (by decide), _, ⟨_, (HB _ _).2.1, rfl⟩, _, hw_wx 10 (HB _ _).2.2.2.2.2.2.2.2.2.1 rfl (by decide) (by decide), G107 _ _ (K0 _ _ _ b0 (b0.trans (if_pos hx0).symm) (fun z => absurd hy0 z)) (HC _ _ _) (KA (KA (KA hK1)))⟩⟩⟩, fun hx0 => ⟨_, hw_wx qx H1.2.2.2.2.2.2.2.2.2.1 ex (by omega) (by decide), _, ⟨_, (HA _).2.1, rfl⟩, fun hy0 => ⟨_, hw_wx qy (HA _).2.2.2.2.2.2.2.2.2.1 ey (by omega) (by decide), _, ⟨_, (HB _ _).2.1, rfl⟩, _, hw_wx 10 (HB _ _).2.2.2.2.2.2.2.2.2.1 rfl (by decide) (by decide), G107 _ _ (K0 _ _ _ b0 (b1.trans (if_neg hx0).symm) (fun _ => b1)) (HC _ _ _) (KA (KA (KA hK1)))⟩, fun hy0 => ⟨_, ⟨_, (HA _).2.1, rfl⟩, _, hw_rx qy (HA _).2.2.2.2.2.2.2.2.2.1 ey (by omega) (by decide), fun _ => ⟨_, hw_wx qy (HA _).2.2.2.2.2.2.2.2.2.1 ey (by omega) (by decide), _, ⟨_, (HB _ _).2.1, rfl⟩, _, hw_wx 10 (HB _ _).2.2.2.2.2.2.2.2.2.1 rfl (by decide) (by decide), G107 _ _ (K0 _ _ _ b0 (b1.trans (if_neg hx0).symm) (fun z => absurd hy0 z)) (HC _ _ _) (KA (KA (KA hK1)))⟩, fun _ => ⟨_, hw_wx qy (HA _).2.2.2.2.2.2.2.2.2.1 ey (by omega) (by decide), _, ⟨_, (HB _ _).2.1, rfl⟩, _, hw_wx 10 (HB _ _).2.2.2.2.2.2.2.2.2.1 rfl (by decide) (by decide), G107 _ _ (K0 _ _ _ b0 (b1.trans (if_neg hx0).symm) (fun z => absurd hy0 z)) (HC _ _ _) (KA (KA (KA hK1)))⟩⟩⟩⟩
  refine ⟨_, ⟨_, M, rfl⟩, _, ⟨_, M, rfl⟩, hw_ci_0 (by decide) (by decide) (ct_Mo_in l g w) (Nat.zero_le _) (Nat.zero_le _) ?_⟩
  rintro r1 w1 ⟨hr1, rfl⟩
  refine ⟨fun h1 => ⟨hw_00, ?_, kn, H0, mo_K_r⟩, fun h1 => ⟨_, ⟨_, M, rfl⟩, _, ⟨_, M, rfl⟩, hw_ci_0 (by decide) (by decide) (ct_Mo_in l g w1) (Nat.zero_le _) (Nat.zero_le _) ?_⟩⟩
  · rw [hr1] at h1
    have z1 : co_lt v x = false := (hw_z_eq _).mp h1
    rw [← hFX]; unfold mo_fx
    rw [if_neg (fun z => by rw [z1] at z; exact absurd z.1 (by decide))]
  rintro r2 w2 ⟨hr2, rfl⟩
  rw [hr1] at h1
  have z1 : co_lt v x = true := (hw_z_ne _).mp h1
  refine ⟨fun h2 => ⟨hw_00, ?_, kn, H0, mo_K_r⟩, fun h2 => ?_⟩
  · rw [hr2] at h2
    have z2 : co_lt v y = false := (hw_z_eq _).mp h2
    rw [← hFX]; unfold mo_fx
    rw [if_neg (fun z => by rw [z2] at z; exact absurd z.2.1 (by decide))]
  rw [hr2] at h2
  have z2 : co_lt v y = true := (hw_z_ne _).mp h2
  have lx : mo_l x := mo_l_in hv z1
  have ly : mo_l y := mo_l_in hv z2
  have FE : ¬ (¬ x = 0 ∧ x = -y) → mo_fz (mo_pw ma lt kc 22 (mo_k0 x y)) = FX := fun z => by
    rw [← hFX]; unfold mo_fx; rw [if_pos ⟨z1, z2, z⟩]
  refine ⟨fun h3 => G45 lx ly (FE (fun z => z.1 h3)), fun h3 => ⟨fun h4 => G45 lx ly (FE (fun z => h4 z.2)), fun h4 => ⟨hw_00, ?_, kn, H0, mo_K_r⟩⟩⟩
  rw [← hFX]; unfold mo_fx
  rw [if_neg (fun z => z.2.2 ⟨h3, h4⟩)]
