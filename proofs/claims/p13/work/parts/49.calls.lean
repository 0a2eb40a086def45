def mo_d0 (va a x : Int32) : Bool := decide (((a >>> ((va - x) &&& 31)) &&& (1 : Int32)) = 0)
def mo_d1 (va a x : Int32) : Bool := decide (((a >>> ((va - x) &&& 31)) &&& (1 : Int32)) = 1)
def mo_it (va a x : Int32) : Bool := if 0 ≤ x then (if x ≤ 0 then mo_d0 va a x else mo_d1 va a x) else (if x ≤ 0 then mo_d0 va a (-x) else mo_d1 va a (-x))
def mo_on (lt : Nat → Int32) (va a : Int32) : Nat → Nat → Bool → Bool
  | 0, _, b => b
  | d + 1, p, b => mo_on lt va a d (p + 1) (b || mo_it va a (lt p))
def mo_sa (ma lt : Nat → Int32) (va a : Int32) : Nat → Nat → Bool → Bool
  | 0, _, b => b
  | d + 1, k, b => if b = true then mo_sa ma lt va a d (k + 1) (mo_on lt va a (ma k).toNatClampNeg (6 * k) false) else b
/-- whether an assignment satisfies the formula -/
def mo_sf (ma lt : Nat → Int32) (va : Int32) (kc : Nat) (a : Nat) : Bool := mo_sa ma lt va (nI a) kc 0 true
def mo_lf (S : Nat → Bool) : Nat → Nat → Int32
  | 0, _ => -1
  | d + 1, a => if S a = true then nI a else mo_lf S d (a + 1)
def mo_cf (S : Nat → Bool) : Nat → Nat → Nat
  | 0, _ => 0
  | d + 1, a => (if S a = true then 1 else 0) + mo_cf S d (a + 1)
def mo_cz (kn : Nat → Int32) : Nat → Nat
  | 0 => 0
  | n + 1 => mo_cz kn n + (if kn n = 0 then 1 else 0)
theorem mo_cz_u {kn : Nat → Int32} {q : Nat} {x : Int32} (hx : ¬ x = 0) : ∀ n, (q < n → kn q = 0 → mo_cz (upd kn q x) n + 1 = mo_cz kn n) ∧ (n ≤ q → mo_cz (upd kn q x) n = mo_cz kn n) := by
  intro n
  induction n with
  | zero => exact ⟨fun z => absurd z (Nat.not_lt_zero _), fun _ => rfl⟩
  | succ n ih =>
    refine ⟨fun h1 h2 => ?_, fun h1 => ?_⟩
    · rw [mo_cz.eq_2, mo_cz.eq_2]
      by_cases hq : q = n
      · subst hq
        rw [ih.2 (Nat.le_refl _), pk_us, if_neg hx, if_pos h2]
      · rw [pk_un (by omega)]
        have := ih.1 (by omega) h2
        omega
    · rw [mo_cz.eq_2, mo_cz.eq_2, ih.2 (by omega), pk_un (by omega)]
theorem mo_cz_b (kn : Nat → Int32) : ∀ n, mo_cz kn n ≤ n := by
  intro n
  induction n with
  | zero => exact Nat.le_refl _
  | succ n ih =>
    rw [mo_cz.eq_2]
    split <;> omega
set_option maxHeartbeats 4000000 in
set_option maxRecDepth 100000 in
theorem ct_Mo_isTrue (l : Launch) (g : hw_G) (w : hw_H) {r : Nat → Nat} {ty wo nx sz ft va cl lv hg em hn pl : Int32} {ch bg en ma lt nu hh kn bf : Nat → Int32} {a x : Int32} (H : mo_I g w r ty wo nx sz ft va cl lv hg em hn pl ch bg en ma lt nu hh kn bf) : hw_Mi l g ym_Mo_isTrue mw_Mo_isTrue (hw_R 1 0 0) [.ref (r 9), .int a, .int x] w (fun r0 w' => r0 = hw_z (mo_it va a x) ∧ w' = w) := by
  refine hw_enteri (r := 1) rfl rfl (by simp [Value.category]) (Nat.le_of_ble_eq_true rfl) ?_
  intro p e s m args below meth c A X hr hlk hnm
  refine sg_Mo_isTrue_0 X (fun _ _ _ _ _ _ h => h) (hw_rtz X hr hlk) ?_
  unfold vc_Mo_isTrue_0
  have H0 := H
  obtain ⟨D, M, A0, A1, A2, A3, A4, A5, A6, A7, A8⟩ := H
  unfold mo_it
  refine ⟨fun h1 => ⟨_, ⟨_, M, rfl⟩, fun h2 => ⟨fun h3 => ⟨hw_00, Or.inl rfl, ?_, rfl⟩, fun h3 => ⟨hw_00, Or.inr rfl, ?_, rfl⟩⟩, fun h2 => ⟨fun h3 => ⟨hw_00, Or.inl rfl, ?_, rfl⟩, fun h3 => ⟨hw_00, Or.inr rfl, ?_, rfl⟩⟩⟩, fun h1 y hy => ⟨_, ⟨_, M, rfl⟩, fun h2 => ⟨fun h3 => ⟨hw_00, Or.inl rfl, ?_, rfl⟩, fun h3 => ⟨hw_00, Or.inr rfl, ?_, rfl⟩⟩, fun h2 => ⟨fun h3 => ⟨hw_00, Or.inl rfl, ?_, rfl⟩, fun h3 => ⟨hw_00, Or.inr rfl, ?_, rfl⟩⟩⟩⟩
  · rw [if_pos h1, if_pos h2]; unfold mo_d0; rw [decide_eq_false h3]; rfl
  · rw [if_pos h1, if_pos h2]; unfold mo_d0; rw [decide_eq_true h3]; rfl
  · rw [if_pos h1, if_neg h2]; unfold mo_d1; rw [decide_eq_false h3]; rfl
  · rw [if_pos h1, if_neg h2]; unfold mo_d1; rw [decide_eq_true h3]; rfl
  · rw [if_neg h1, if_pos h2]; subst hy; unfold mo_d0; rw [decide_eq_false h3]; rfl
  · rw [if_neg h1, if_pos h2]; subst hy; unfold mo_d0; rw [decide_eq_true h3]; rfl
  · rw [if_neg h1, if_neg h2]; subst hy; unfold mo_d1; rw [decide_eq_false h3]; rfl
  · rw [if_neg h1, if_neg h2]; subst hy; unfold mo_d1; rw [decide_eq_true h3]; rfl
set_option maxHeartbeats 4000000 in
set_option maxRecDepth 100000 in
theorem ct_Mo_satisfies (l : Launch) (g : hw_G) (w : hw_H) {r : Nat → Nat} {ty wo nx sz ft va lv hg em hn pl : Int32} {ch bg en ma lt nu hh kn bf : Nat → Int32} {kc a : Nat} (H : mo_I g w r ty wo nx sz ft va (nI kc) lv hg em hn pl ch bg en ma lt nu hh kn bf) (hc : kc ≤ 24) (ha : mo_a ma lt) : hw_Mi l g ym_Mo_satisfies mw_Mo_satisfies (hw_R 2 0 0) [.ref (r 9), .int (nI a)] w (fun r0 w' => r0 = hw_z (mo_sf ma lt va kc a) ∧ w' = w) := by
  refine hw_enteri (r := 4) rfl rfl (by simp [Value.category]) (Nat.le_of_ble_eq_true rfl) ?_
  intro p e s m args below meth c A X hr hlk hnm
  refine sg_Mo_satisfies_0 X (fun _ _ _ _ _ _ h => h) (hw_rtz X hr hlk) ?_
  unfold vc_Mo_satisfies_0
  have H0 := H
  obtain ⟨D, M, A0, A1, A2, A3, A4, A5, A6, A7, A8⟩ := H
  generalize hR : mo_sf ma lt va kc a = RES
  unfold mo_sf at hR
  have L4 : ∀ (d k : Nat) (b : Bool), k + d = kc → mo_sa ma lt va (nI a) d k b = RES → hw_Ji p l e (hw_R 2 0 0) s m args below meth c 6 g A (fun r0 w' => r0 = hw_z RES ∧ w' = w) 0 0 4 [some (.ref (r 9)), some (.int (nI a)), some (.int (hw_z b)), some (.int (nI k)), none, none] [] w := by
    intro d
    induction d with
    | zero =>
      intro k b hk hres
      have hres : b = RES := hres
      subst hres
      refine sg_Mo_satisfies_4 X (fun _ _ _ _ _ _ h => h) (hw_rtz X hr hlk) ?_
      unfold vc_Mo_satisfies_4
      exact ⟨_, ⟨_, M, rfl⟩, fun _ => ⟨hw_00, hw_z_b _, rfl, rfl⟩, fun h => absurd (nI_le (by omega) (by omega)) h⟩
    | succ d ih =>
      intro k b hk hres
      obtain ⟨j, hj, hm⟩ := ha.1 k (by omega)
      rw [mo_sa.eq_2, hm, nI_clamp (by omega)] at hres
      refine sg_Mo_satisfies_4 X (fun _ _ _ _ _ _ h => h) (hw_rtz X hr hlk) ?_
      unfold vc_Mo_satisfies_4
      refine ⟨_, ⟨_, M, rfl⟩, fun h => absurd h (nI_ge (by omega) (by omega)), fun _ => ⟨fun h2 => ?_, fun h2 => ?_⟩⟩
      · rw [if_neg (by rw [(hw_z_eq _).mp h2]; decide)] at hres
        subst hres
        exact ⟨hw_00, hw_z_b _, rfl, rfl⟩
      rw [if_pos ((hw_z_ne _).mp h2)] at hres
      have L22 : ∀ (d2 i : Nat) (o : Bool), i + d2 = j → mo_on lt va (nI a) d2 (6 * k + i) o = mo_on lt va (nI a) j (6 * k) false → hw_Ji p l e (hw_R 2 0 0) s m args below meth c 6 g A (fun r0 w' => r0 = hw_z RES ∧ w' = w) 0 0 22 [some (.ref (r 9)), some (.int (nI a)), some (.int (hw_z b)), some (.int (nI k)), some (.int (hw_z o)), some (.int (nI i))] [] w := by
        intro d2
        induction d2 with
        | zero =>
          intro i o hi ho
          have hi2 : i = j := by omega
          subst hi2
          have ho : o = _ := ho
          rw [← ho] at hres
          refine sg_Mo_satisfies_22 X (fun _ _ _ _ _ _ h => h) (hw_rtz X hr hlk) ?_
          unfold vc_Mo_satisfies_22
          refine ⟨_, ⟨_, M, rfl⟩, _, hw_rv A3 (by omega) (by decide) hm, fun _ => ?_, fun h => absurd (Int32.le_refl _) h⟩
          rw [nI_1]
          exact ih (k + 1) o (by omega) hres
        | succ d2 ih2 =>
          intro i o hi ho
          rw [mo_on.eq_2] at ho
          refine sg_Mo_satisfies_22 X (fun _ _ _ _ _ _ h => h) (hw_rtz X hr hlk) ?_
          unfold vc_Mo_satisfies_22
          refine ⟨_, ⟨_, M, rfl⟩, _, hw_rv A3 (by omega) (by decide) hm, fun h => absurd h (nI_ge (by omega) (by omega)), fun _ => ⟨fun h3 => ?_, fun h3 => ⟨hw_o_of M rfl rfl, hw_ci_0 (by decide) (by decide) (ct_Mo_literalOf l g w H0 (by omega)) (Nat.zero_le _) (Nat.zero_le _) ?_⟩⟩⟩
          · rw [(hw_z_ne _).mp h3, Bool.true_or] at ho
            rw [nI_1]
            exact ih2 (i + 1) true (by omega) ho
          rintro r1 w1 ⟨rfl, rfl⟩
          refine ⟨hw_o_of M rfl rfl, hw_ci_0 (by decide) (by decide) (ct_Mo_isTrue l g w1 H0) (Nat.zero_le _) (Nat.zero_le _) ?_⟩
          rintro r2 w2 ⟨hr2, rfl⟩
          rw [(hw_z_eq _).mp h3, Bool.false_or] at ho
          refine ⟨fun h4 => ?_, fun h4 => ?_⟩
          · rw [hr2] at h4
            rw [(hw_z_eq _).mp h4] at ho
            rw [nI_1]
            exact ih2 (i + 1) false (by omega) ho
          · rw [hr2] at h4
            rw [(hw_z_ne _).mp h4] at ho
            rw [nI_1]
            exact ih2 (i + 1) true (by omega) ho
      exact L22 j 0 false (by omega) rfl
  exact L4 kc 0 true (by omega) hR
set_option maxHeartbeats 4000000 in
set_option maxRecDepth 100000 in
theorem ct_Mo_least (l : Launch) (g : hw_G) (w : hw_H) {r : Nat → Nat} {ty wo nx sz ft lv hg em hn pl : Int32} {ch bg en ma lt nu hh kn bf : Nat → Int32} {kc v : Nat} (H : mo_I g w r ty wo nx sz ft (nI v) (nI kc) lv hg em hn pl ch bg en ma lt nu hh kn bf) (hc : kc ≤ 24) (ha : mo_a ma lt) (hv : v ≤ 10) : hw_Mi l g ym_Mo_least mw_Mo_least (hw_R 3 0 0) [.ref (r 9)] w (fun r0 w' => r0 = mo_lf (mo_sf ma lt (nI v) kc) (2 ^ v) 0 ∧ w' = w) := by
  refine hw_enteri (r := 2) rfl rfl (by simp [Value.category]) (Nat.le_of_ble_eq_true rfl) ?_
  intro p e s m args below meth c A X hr hlk hnm
  refine sg_Mo_least_0 X (fun _ _ _ _ _ _ h => h) (hw_rti X hr hlk) ?_
  unfold vc_Mo_least_0
  have H0 := H
  obtain ⟨D, M, A0, A1, A2, A3, A4, A5, A6, A7, A8⟩ := H
  obtain ⟨e1, e2⟩ := fo_sh v (by omega)
  generalize hR : mo_lf (mo_sf ma lt (nI v) kc) (2 ^ v) 0 = RES
  have F4 : ∀ (i x2 : Nat), x2 < 2 ^ 30 → nI i = RES → i < 2 ^ 30 → hw_Ji p l e (hw_R 3 0 0) s m args below meth c 3 g A (fun r0 w' => r0 = RES ∧ w' = w) 0 0 4 [some (.ref (r 9)), some (.int (nI i)), some (.int (nI x2))] [] w := by
    intro i x2 hx2 hres hi
    refine sg_Mo_least_4 X (fun _ _ _ _ _ _ h => h) (hw_rti X hr hlk) ?_
    unfold vc_Mo_least_4
    exact ⟨_, ⟨_, M, rfl⟩, fun _ => ⟨hw_00, hres, rfl⟩, fun _ => ⟨fun _ => ⟨hw_00, hres, rfl⟩, fun h => absurd (nI_pos' (by omega)) h⟩⟩
  have L4 : ∀ (d i : Nat), i + d = 2 ^ v → mo_lf (mo_sf ma lt (nI v) kc) d i = RES → hw_Ji p l e (hw_R 3 0 0) s m args below meth c 3 g A (fun r0 w' => r0 = RES ∧ w' = w) 0 0 4 [some (.ref (r 9)), some (.int (-1 : Int32)), some (.int (nI i))] [] w := by
    intro d
    induction d with
    | zero =>
      intro i hi hres
      have hres : (-1 : Int32) = RES := hres
      refine sg_Mo_least_4 X (fun _ _ _ _ _ _ h => h) (hw_rti X hr hlk) ?_
      unfold vc_Mo_least_4
      exact ⟨_, ⟨_, M, rfl⟩, fun _ => ⟨hw_00, hres, rfl⟩, fun h => absurd (by rw [e1, show i = 2 ^ v by omega]; exact Int32.le_refl _) h⟩
    | succ d ih =>
      intro i hi hres
      rw [mo_lf.eq_2] at hres
      refine sg_Mo_least_4 X (fun _ _ _ _ _ _ h => h) (hw_rti X hr hlk) ?_
      unfold vc_Mo_least_4
      refine ⟨_, ⟨_, M, rfl⟩, fun h => absurd h (by rw [e1]; exact nI_ge (by omega) (by omega)), fun _ => ⟨fun h => absurd h (by decide), fun _ => ⟨hw_o_of M rfl rfl, hw_ci_0 (by decide) (by decide) (ct_Mo_satisfies l g w H0 hc ha) (Nat.zero_le _) (Nat.zero_le _) ?_⟩⟩⟩
      rintro r1 w1 ⟨hr1, rfl⟩
      refine ⟨fun h => ?_, fun h => ?_⟩
      · rw [hr1] at h
        rw [if_neg (by rw [(hw_z_eq _).mp h]; decide)] at hres
        rw [nI_1]
        exact ih (i + 1) (by omega) hres
      · rw [hr1] at h
        rw [if_pos ((hw_z_ne _).mp h)] at hres
        rw [nI_1]
        exact F4 i (i + 1) (by omega) hres (by omega)
  exact L4 (2 ^ v) 0 (by omega) hR
set_option maxHeartbeats 4000000 in
set_option maxRecDepth 100000 in
theorem ct_Mo_count (l : Launch) (g : hw_G) (w : hw_H) {r : Nat → Nat} {ty wo nx sz ft lv hg em hn pl : Int32} {ch bg en ma lt nu hh kn bf : Nat → Int32} {kc v : Nat} (H : mo_I g w r ty wo nx sz ft (nI v) (nI kc) lv hg em hn pl ch bg en ma lt nu hh kn bf) (hc : kc ≤ 24) (ha : mo_a ma lt) (hv : v ≤ 10) : hw_Mi l g ym_Mo_count mw_Mo_count (hw_R 3 0 0) [.ref (r 9)] w (fun r0 w' => r0 = nI (mo_cf (mo_sf ma lt (nI v) kc) (2 ^ v) 0) ∧ w' = w) := by
  refine hw_enteri (r := 2) rfl rfl (by simp [Value.category]) (Nat.le_of_ble_eq_true rfl) ?_
  intro p e s m args below meth c A X hr hlk hnm
  refine sg_Mo_count_0 X (fun _ _ _ _ _ _ h => h) (hw_rti X hr hlk) ?_
  unfold vc_Mo_count_0
  have H0 := H
  obtain ⟨D, M, A0, A1, A2, A3, A4, A5, A6, A7, A8⟩ := H
  obtain ⟨e1, e2⟩ := fo_sh v (by omega)
  generalize hR : mo_cf (mo_sf ma lt (nI v) kc) (2 ^ v) 0 = RES
  have L4 : ∀ (d i a : Nat), i + d = 2 ^ v → a + mo_cf (mo_sf ma lt (nI v) kc) d i = RES → hw_Ji p l e (hw_R 3 0 0) s m args below meth c 3 g A (fun r0 w' => r0 = nI RES ∧ w' = w) 0 0 4 [some (.ref (r 9)), some (.int (nI a)), some (.int (nI i))] [] w := by
    intro d
    induction d with
    | zero =>
      intro i a hi hres
      have hres : a = RES := hres
      subst hres
      refine sg_Mo_count_4 X (fun _ _ _ _ _ _ h => h) (hw_rti X hr hlk) ?_
      unfold vc_Mo_count_4
      exact ⟨_, ⟨_, M, rfl⟩, fun _ => ⟨hw_00, rfl, rfl⟩, fun h => absurd (by rw [e1, show i = 2 ^ v by omega]; exact Int32.le_refl _) h⟩
    | succ d ih =>
      intro i a hi hres
      rw [mo_cf.eq_2] at hres
      refine sg_Mo_count_4 X (fun _ _ _ _ _ _ h => h) (hw_rti X hr hlk) ?_
      unfold vc_Mo_count_4
      refine ⟨_, ⟨_, M, rfl⟩, fun h => absurd h (by rw [e1]; exact nI_ge (by omega) (by omega)), fun _ => ⟨hw_o_of M rfl rfl, hw_ci_0 (by decide) (by decide) (ct_Mo_satisfies l g w H0 hc ha) (Nat.zero_le _) (Nat.zero_le _) ?_⟩⟩
      rintro r1 w1 ⟨hr1, rfl⟩
      refine ⟨fun h => ?_, fun h y hy => ?_⟩
      · rw [hr1] at h
        rw [if_neg (by rw [(hw_z_eq _).mp h]; decide)] at hres
        rw [nI_1]
        exact ih (i + 1) a (by omega) (by omega)
      · rw [hr1] at h
        rw [if_pos ((hw_z_ne _).mp h)] at hres
        rw [nI_1] at hy
        subst hy
        rw [nI_1]
        exact ih (i + 1) (a + 1) (by omega) (by omega)
  exact L4 (2 ^ v) 0 0 (by omega) (by omega)
set_option maxHeartbeats 4000000 in
set_option maxRecDepth 100000 in
theorem ct_Mo_solve (l : Launch) (g : hw_G) (w : hw_H) {r : Nat → Nat} {ty wo nx sz ft lv hg em hn pl : Int32} {ch bg en ma lt nu hh kn bf : Nat → Int32} {kc v : Nat} (H : mo_I g w r ty wo nx sz ft (nI v) (nI kc) lv hg em hn pl ch bg en ma lt nu hh kn bf) (hc : kc ≤ 24) (ha : mo_a ma lt) (hv : v ≤ 10) : hw_Mi l g ym_Mo_solve mw_Mo_solve (hw_R 4 0 0) [.ref (r 9)] w (fun r0 w' => r0 = hw_z (!decide (mo_lf (mo_sf ma lt (nI v) kc) (2 ^ v) 0 < 0)) ∧ w' = w) := by
  refine hw_enteri (r := 0) rfl rfl (by simp [Value.category]) (Nat.le_of_ble_eq_true rfl) ?_
  intro p e s m args below meth c A X hr hlk hnm
  refine sg_Mo_solve_0 X (fun _ _ _ _ _ _ h => h) (hw_rti X hr hlk) ?_
  unfold vc_Mo_solve_0
  have H0 := H
  obtain ⟨D, M, A0, A1, A2, A3, A4, A5, A6, A7, A8⟩ := H
  refine ⟨hw_o_of M rfl rfl, hw_ci_0 (by decide) (by decide) (ct_Mo_least l g w H0 hc ha hv) (Nat.zero_le _) (Nat.zero_le _) ?_⟩
  rintro r1 w1 ⟨rfl, rfl⟩
  exact ⟨fun h => ⟨hw_00, (by simp [h, hw_z]), rfl⟩, fun h => ⟨hw_00, (by simp [h, hw_z]), rfl⟩⟩
set_option maxHeartbeats 4000000 in
set_option maxRecDepth 100000 in
theorem ct_Mo_proves (l : Launch) (g : hw_G) (w : hw_H) {r : Nat → Nat} {ty wo nx sz ft lv hg em hn pl : Int32} {ch bg en ma lt nu hh kn bf : Nat → Int32} {kc v : Nat} (H : mo_I g w r ty wo nx sz ft (nI v) (nI kc) lv hg em hn pl ch bg en ma lt nu hh kn bf) (hc : kc ≤ 24) (ha : mo_a ma lt) (hv : v ≤ 10) : hw_Mi l g ym_Mo_proves mw_Mo_proves (hw_R 4 0 0) [.ref (r 9)] w (fun r0 w' => r0 = hw_z (decide (mo_lf (mo_sf ma lt (nI v) kc) (2 ^ v) 0 < 0)) ∧ w' = w) := by
  refine hw_enteri (r := 0) rfl rfl (by simp [Value.category]) (Nat.le_of_ble_eq_true rfl) ?_
  intro p e s m args below meth c A X hr hlk hnm
  refine sg_Mo_proves_0 X (fun _ _ _ _ _ _ h => h) (hw_rtz X hr hlk) ?_
  unfold vc_Mo_proves_0
  have H0 := H
  obtain ⟨D, M, A0, A1, A2, A3, A4, A5, A6, A7, A8⟩ := H
  refine ⟨hw_o_of M rfl rfl, hw_ci_0 (by decide) (by decide) (ct_Mo_least l g w H0 hc ha hv) (Nat.zero_le _) (Nat.zero_le _) ?_⟩
  rintro r1 w1 ⟨rfl, rfl⟩
  refine ⟨fun h => ⟨hw_00, Or.inl rfl, ?_, rfl⟩, fun h => ⟨hw_00, Or.inr rfl, ?_, rfl⟩⟩
  · simp [Int32.not_lt.mpr h, hw_z]
  · simp [Int32.not_le.mp h, hw_z]
set_option maxHeartbeats 4000000 in
set_option maxRecDepth 100000 in
theorem ct_Mo_value (l : Launch) (g : hw_G) (w : hw_H) {r : Nat → Nat} {ty wo nx sz ft lv hg em hn pl : Int32} {ch bg en ma lt nu hh kn bf : Nat → Int32} {kc v : Nat} {x : Int32} (H : mo_I g w r ty wo nx sz ft (nI v) (nI kc) lv hg em hn pl ch bg en ma lt nu hh kn bf) (hc : kc ≤ 24) (ha : mo_a ma lt) (hv : v ≤ 10) : hw_Mi l g ym_Mo_value mw_Mo_value (hw_R 4 0 0) [.ref (r 9), .int x] w (fun r0 w' => r0 = (if tx_in x 1 (nI v) = true ∧ ¬ mo_lf (mo_sf ma lt (nI v) kc) (2 ^ v) 0 < 0 then (mo_lf (mo_sf ma lt (nI v) kc) (2 ^ v) 0 >>> ((nI v - x) &&& 31)) &&& (1 : Int32) else -1) ∧ w' = w) := by
  refine hw_enteri (r := 1) rfl rfl (by simp [Value.category]) (Nat.le_of_ble_eq_true rfl) ?_
  intro p e s m args below meth c A X hr hlk hnm
  refine sg_Mo_value_0 X (fun _ _ _ _ _ _ h => h) (hw_rti X hr hlk) ?_
  unfold vc_Mo_value_0
  have H0 := H
  obtain ⟨D, M, A0, A1, A2, A3, A4, A5, A6, A7, A8⟩ := H
  refine ⟨hw_o_of M rfl rfl, hw_ci_0 (by decide) (by decide) (ct_Mo_least l g w H0 hc ha hv) (Nat.zero_le _) (Nat.zero_le _) ?_⟩
  rintro r1 w1 ⟨rfl, rfl⟩
  refine ⟨_, ⟨_, M, rfl⟩, hw_ci_0 (by decide) (by decide) (ct_Mo_in l g w1) (Nat.zero_le _) (Nat.zero_le _) ?_⟩
  rintro r2 w2 ⟨hr2, rfl⟩
  refine ⟨fun h => ⟨hw_00, ?_, rfl⟩, fun h => ⟨fun h2 => ⟨hw_00, ?_, rfl⟩, fun h2 => ⟨_, ⟨_, M, rfl⟩, hw_00, ?_, rfl⟩⟩⟩
  · rw [hr2] at h
    have h3 : tx_in x 1 (nI v) = false := (hw_z_eq _).mp h
    rw [if_neg (fun z => by rw [h3] at z; exact absurd z.1 (by decide))]
  · rw [if_neg (fun z => z.2 h2)]
  · rw [hr2] at h
    have h3 : tx_in x 1 (nI v) = true := (hw_z_ne _).mp h
    rw [if_pos ⟨h3, h2⟩]
set_option maxHeartbeats 4000000 in
set_option maxRecDepth 100000 in
theorem ct_Mo_variables (l : Launch) (g : hw_G) (w : hw_H) {r : Nat → Nat} {ty wo nx sz ft va cl lv hg em hn pl : Int32} {ch bg en ma lt nu hh kn bf : Nat → Int32} (H : mo_I g w r ty wo nx sz ft va cl lv hg em hn pl ch bg en ma lt nu hh kn bf) : hw_Mi l g ym_Mo_variables mw_Mo_variables (hw_R 1 0 0) [.ref (r 9)] w (fun r0 w' => r0 = va ∧ w' = w) := by
  refine hw_enteri (r := 0) rfl rfl (by simp [Value.category]) (Nat.le_of_ble_eq_true rfl) ?_
  intro p e s m args below meth c A X hr hlk hnm
  refine sg_Mo_variables_0 X (fun _ _ _ _ _ _ h => h) (hw_rti X hr hlk) ?_
  unfold vc_Mo_variables_0
  exact ⟨_, ⟨_, H.2.1, rfl⟩, hw_00, rfl, rfl⟩
set_option maxHeartbeats 4000000 in
set_option maxRecDepth 100000 in
theorem ct_Mo_live (l : Launch) (g : hw_G) (w : hw_H) {r : Nat → Nat} {ty wo nx sz ft va cl lv hg em hn pl : Int32} {ch bg en ma lt nu hh kn bf : Nat → Int32} (H : mo_I g w r ty wo nx sz ft va cl lv hg em hn pl ch bg en ma lt nu hh kn bf) : hw_Mi l g ym_Mo_live mw_Mo_live (hw_R 1 0 0) [.ref (r 9)] w (fun r0 w' => r0 = lv ∧ w' = w) := by
  refine hw_enteri (r := 0) rfl rfl (by simp [Value.category]) (Nat.le_of_ble_eq_true rfl) ?_
  intro p e s m args below meth c A X hr hlk hnm
  refine sg_Mo_live_0 X (fun _ _ _ _ _ _ h => h) (hw_rti X hr hlk) ?_
  unfold vc_Mo_live_0
  exact ⟨_, ⟨_, H.2.1, rfl⟩, hw_00, rfl, rfl⟩
set_option maxHeartbeats 4000000 in
set_option maxRecDepth 100000 in
theorem ct_Mo_refuted (l : Launch) (g : hw_G) (w : hw_H) {r : Nat → Nat} {ty wo nx sz ft va cl lv hg em hn pl : Int32} {ch bg en ma lt nu hh kn bf : Nat → Int32} (H : mo_I g w r ty wo nx sz ft va cl lv hg em hn pl ch bg en ma lt nu hh kn bf) (hb : hw_b em) : hw_Mi l g ym_Mo_refuted mw_Mo_refuted (hw_R 1 0 0) [.ref (r 9)] w (fun r0 w' => r0 = em ∧ w' = w) := by
  refine hw_enteri (r := 0) rfl rfl (by simp [Value.category]) (Nat.le_of_ble_eq_true rfl) ?_
  intro p e s m args below meth c A X hr hlk hnm
  refine sg_Mo_refuted_0 X (fun _ _ _ _ _ _ h => h) (hw_rtz X hr hlk) ?_
  unfold vc_Mo_refuted_0
  exact ⟨_, ⟨_, H.2.1, rfl⟩, hw_00, hb, rfl, rfl⟩
set_option maxHeartbeats 4000000 in
set_option maxRecDepth 100000 in
theorem ct_Mo_literal (l : Launch) (g : hw_G) (w : hw_H) {r : Nat → Nat} {ty wo nx sz ft va cl hg em hn pl : Int32} {ch bg en ma lt nu hh kn bf : Nat → Int32} {Lv : Nat} {x y : Int32} (H : mo_I g w r ty wo nx sz ft va cl (nI Lv) hg em hn pl ch bg en ma lt nu hh kn bf) (hLv : Lv ≤ 40) (ha : mo_a ma lt) : hw_Mi l g ym_Mo_literal mw_Mo_literal (hw_R 2 0 0) [.ref (r 9), .int x, .int y] w (fun r0 w' => w' = w) := by
  refine hw_enteri (r := 1) rfl rfl (by simp [Value.category]) (Nat.le_of_ble_eq_true rfl) ?_
  intro p e s m args below meth c A X hr hlk hnm
  refine sg_Mo_literal_0 X (fun _ _ _ _ _ _ h => h) (hw_rti X hr hlk) ?_
  unfold vc_Mo_literal_0
  have H0 := H
  obtain ⟨D, M, A0, A1, A2, A3, A4, A5, A6, A7, A8⟩ := H
  refine ⟨hw_o_of M rfl rfl, hw_ci_0 (by decide) (by decide) (ct_Mo_find l g w H0 hLv) (Nat.zero_le _) (Nat.zero_le _) ?_⟩
  rintro r1 w1 ⟨rfl, hcase⟩
  refine ⟨fun _ => ⟨hw_00, rfl⟩, fun h => ?_⟩
  rcases hcase with ⟨rfl, -⟩ | ⟨i, hi, rfl, -⟩
  · exact absurd (by decide) h
  obtain ⟨j, hj, hm⟩ := ha.1 (24 + i) (by omega)
  rw [show (24 : Int32) + nI i = nI (24 + i) from nI_add 24 i]
  refine ⟨_, ⟨_, M, rfl⟩, _, hw_rv A3 (by omega) (by decide) hm, hw_ci_0 (by decide) (by decide) (ct_Mo_in l g w1) (Nat.zero_le _) (Nat.zero_le _) ?_⟩
  rintro r2 w2 ⟨hr2, rfl⟩
  refine ⟨fun _ => ⟨hw_00, rfl⟩, fun h2 => ?_⟩
  rw [hr2] at h2
  have h3 := (hw_z_ne _).mp h2
  simp only [Bool.and_eq_true, Bool.not_eq_true', decide_eq_false_iff_not] at h3
  obtain ⟨k, hk, rfl⟩ := nI_of h3.1
  have hkj : k < j := by
    rcases Nat.eq_zero_or_pos j with z | z
    · subst z
      exact absurd (Int32.lt_of_lt_of_le (by decide : nI 0 - 1 < (0 : Int32)) (nI_pos' hk)) h3.2
    · obtain ⟨j', rfl⟩ : ∃ j', j = j' + 1 := ⟨j - 1, by omega⟩
      rw [nI_pred] at h3
      have := mt (nI_ltI (a := j') (b := k) (by omega) hk).mpr h3.2
      omega
  refine ⟨hw_o_of M rfl rfl, hw_ci_0 (by decide) (by decide) (ct_Mo_literalOf l g w2 H0 (by omega)) (Nat.zero_le _) (Nat.zero_le _) ?_⟩
  rintro r3 w3 ⟨-, rfl⟩
  exact ⟨hw_00, rfl⟩
set_option maxHeartbeats 4000000 in
set_option maxRecDepth 100000 in
theorem ct_Mo_forced (l : Launch) (g : hw_G) (w : hw_H) {r : Nat → Nat} {ty wo nx sz ft lv hg em hn pl : Int32} {ch bg en ma lt nu hh kn bf : Nat → Int32} {kc v : Nat} {x y : Int32} (H : mo_I g w r ty wo nx sz ft (nI v) (nI kc) lv hg em hn pl ch bg en ma lt nu hh kn bf) (hc : kc ≤ 24) (ha : mo_a ma lt) (hv : v ≤ 10) : hw_Mi l g ym_Mo_forced mw_Mo_forced (hw_R 3 0 0) [.ref (r 9), .int x, .int y] w (fun r0 w' => ∃ kn' : Nat → Int32, mo_I g w' r ty wo nx sz ft (nI v) (nI kc) lv hg em hn pl ch bg en ma lt nu hh kn' bf ∧ mo_K w w' r) := by
  refine hw_enteri (r := 3) rfl rfl (by simp [Value.category]) (Nat.le_of_ble_eq_true rfl) ?_
  intro p e s m args below meth c A X hr hlk hnm
  refine sg_Mo_forced_0 X (fun _ _ _ _ _ _ h => h) (hw_rti X hr hlk) ?_
  unfold vc_Mo_forced_0
  have H0 := H
  obtain ⟨D, M, A0, A1, A2, A3, A4, A5, A6, A7, A8⟩ := H
  have L174 : ∀ (x3 : Int32) (d i : Nat) (x4 : Int32) (kn1 : Nat → Int32) (w1 : hw_H), i + d = 21 → mo_I g w1 r ty wo nx sz ft (nI v) (nI kc) lv hg em hn pl ch bg en ma lt nu hh kn1 bf → mo_K w w1 r → hw_Ji p l e (hw_R 3 0 0) s m args below meth c 6 g A (fun r0 w' => ∃ kn' : Nat → Int32, mo_I g w' r ty wo nx sz ft (nI v) (nI kc) lv hg em hn pl ch bg en ma lt nu hh kn' bf ∧ mo_K w w' r) 0 0 174 [some (.ref (r 9)), some (.int x), some (.int y), some (.int x3), some (.int x4), some (.int (nI i))] [] w1 := by
    intro x3 d
    induction d with
    | zero =>
      intro i x4 kn1 w1 hi H1 hK1
      have hi2 : i = 21 := by omega
      subst hi2
      refine sg_Mo_forced_174 X (fun _ _ _ _ _ _ h => h) (hw_rti X hr hlk) ?_
      unfold vc_Mo_forced_174
      exact ⟨fun _ => ⟨hw_00, kn1, H1, hK1⟩, fun h => absurd (Int32.le_refl _) h⟩
    | succ d ih =>
      intro i x4 kn1 w1 hi H1 hK1
      refine sg_Mo_forced_174 X (fun _ _ _ _ _ _ h => h) (hw_rti X hr hlk) ?_
      unfold vc_Mo_forced_174
      refine ⟨fun h => absurd h (nI_ge (b := 21) (by omega) (by omega)), fun _ => ⟨_, ⟨_, H1.2.1, rfl⟩, _, hw_rd H1.2.2.2.2.2.2.2.2.2.1 (by omega) (by decide), fun _ => ?_, fun _ y3 _ => ?_⟩⟩
      · rw [nI_1]
        exact ih (i + 1) x4 kn1 w1 (by omega) H1 hK1
      · rw [nI_1]
        exact ih (i + 1) y3 kn1 w1 (by omega) H1 hK1
  have E107 : ∀ (kn1 : Nat → Int32) (w1 : hw_H), mo_I g w1 r ty wo nx sz ft (nI v) (nI kc) lv hg em hn pl ch bg en ma lt nu hh kn1 bf → mo_K w w1 r → hw_Ji p l e (hw_R 3 0 0) s m args below meth c 6 g A (fun r0 w' => ∃ kn' : Nat → Int32, mo_I g w' r ty wo nx sz ft (nI v) (nI kc) lv hg em hn pl ch bg en ma lt nu hh kn' bf ∧ mo_K w w' r) 0 0 107 [some (.ref (r 9)), some (.int x), some (.int y), some (.int (0 : Int32)), none, none] [] w1 := by
    intro kn1 w1 H1 hK1
    refine sg_Mo_forced_107 X (fun _ _ _ _ _ _ h => h) (hw_rti X hr hlk) ?_
    unfold vc_Mo_forced_107
    exact ⟨fun _ => L174 _ 21 0 _ kn1 w1 rfl H1 hK1, fun h => absurd rfl h⟩
  have L107 : ∀ (D : Nat) (kn1 : Nat → Int32) (w1 : hw_H), mo_cz kn1 21 < D → mo_I g w1 r ty wo nx sz ft (nI v) (nI kc) lv hg em hn pl ch bg en ma lt nu hh kn1 bf → mo_K w w1 r → hw_Ji p l e (hw_R 3 0 0) s m args below meth c 6 g A (fun r0 w' => ∃ kn' : Nat → Int32, mo_I g w' r ty wo nx sz ft (nI v) (nI kc) lv hg em hn pl ch bg en ma lt nu hh kn' bf ∧ mo_K w w' r) 0 0 107 [some (.ref (r 9)), some (.int x), some (.int y), some (.int (1 : Int32)), none, none] [] w1 := by
    intro D
    induction D with
    | zero => intro kn1 w1 z; omega
    | succ D ihD =>
      intro kn1 w1 hcz H1 hK1
      have L116 : ∀ (d k : Nat) (b : Bool) (kn2 : Nat → Int32) (w2 : hw_H), k + d = kc → (b = false → mo_cz kn2 21 < D + 1) → (b = true → mo_cz kn2 21 < D) → mo_I g w2 r ty wo nx sz ft (nI v) (nI kc) lv hg em hn pl ch bg en ma lt nu hh kn2 bf → mo_K w w2 r → hw_Ji p l e (hw_R 3 0 0) s m args below meth c 6 g A (fun r0 w' => ∃ kn' : Nat → Int32, mo_I g w' r ty wo nx sz ft (nI v) (nI kc) lv hg em hn pl ch bg en ma lt nu hh kn' bf ∧ mo_K w w' r) 0 0 116 [some (.ref (r 9)), some (.int x), some (.int y), some (.int (hw_z b)), some (.int (nI k)), none] [] w2 := by
        intro d
        induction d with
        | zero =>
          intro k b kn2 w2 hk c1 c2 H2 hK2
          have hi2 : k = kc := by omega
          subst hi2
          refine sg_Mo_forced_116 X (fun _ _ _ _ _ _ h => h) (hw_rti X hr hlk) ?_
          unfold vc_Mo_forced_116
          refine ⟨_, ⟨_, H2.2.1, rfl⟩, fun _ => ?_, fun h => absurd (Int32.le_refl _) h⟩
          cases b with
          | false => exact E107 kn2 w2 H2 hK2
          | true => exact ihD kn2 w2 (c2 rfl) H2 hK2
        | succ d ih =>
          intro k b kn2 w2 hk c1 c2 H2 hK2
          obtain ⟨j, hj, hm⟩ := ha.1 k (by omega)
          refine sg_Mo_forced_116 X (fun _ _ _ _ _ _ h => h) (hw_rti X hr hlk) ?_
          unfold vc_Mo_forced_116
          refine ⟨_, ⟨_, H2.2.1, rfl⟩, fun h => absurd h (nI_ge (by omega) (by omega)), fun _ => ⟨hw_o_of H2.2.1 rfl rfl, hw_ci_0 (by decide) (by decide) (ct_Mo_told l g w2 H2 (by omega) hm hj ha.2) (Nat.zero_le _) (Nat.zero_le _) ?_⟩⟩
          rintro r3 w3 ⟨hr3, rfl⟩
          have hs := mo_tl_s (lt := lt) (kn := kn2) (j := j) (p := 6 * k) (fun i2 hi2 => ha.2 _ (by omega))
          rw [← hr3] at hs
          clear hr3
          rcases hs with rfl | rfl | ⟨q, hq, rfl, hz⟩
          · exact ⟨fun z => absurd rfl z, fun _ => ⟨hw_00, kn2, H2, hK2⟩⟩
          · refine ⟨fun _ => ⟨fun _ => ?_, fun z => absurd (Int32.le_refl _) z⟩, fun z => absurd z (by decide)⟩
            rw [nI_1]
            exact ih (k + 1) b kn2 w3 (by omega) c1 c2 H2 hK2
          · have e1 : ¬ nI (q + 1) = 0 := nI_ne0 (by omega) (by omega)
            refine ⟨fun _ => ⟨fun z => absurd z (nI_ge (b := 99) (by omega) (by omega)), fun _ => ⟨_, ⟨_, H2.2.1, rfl⟩, _, hw_wx q H2.2.2.2.2.2.2.2.2.2.1 (nI_pred q) (by omega) (by decide), ?_⟩⟩, fun z => absurd z e1⟩
            rw [nI_1]
            have hz2 := (mo_cz_u (kn := kn2) (q := q) (x := vp_nar .boolean (1 : Int32)) (by decide) 21).1 (by omega) hz
            refine ih (k + 1) true _ _ (by omega) (fun z => by cases z) (fun _ => ?_) (mo_u7 _ H2) (mo_K_u hK2 (by decide))
            cases b with
            | false => have := c1 rfl; omega
            | true => have := c2 rfl; omega
      refine sg_Mo_forced_107 X (fun _ _ _ _ _ _ h => h) (hw_rti X hr hlk) ?_
      unfold vc_Mo_forced_107
      exact ⟨fun h => absurd h (by decide), fun _ => L116 kc 0 false kn1 w1 (by omega) (fun _ => hcz) (fun z => by cases z) H1 hK1⟩
  have G107 : ∀ (kn1 : Nat → Int32) (w1 : hw_H), mo_I g w1 r ty wo nx sz ft (nI v) (nI kc) lv hg em hn pl ch bg en ma lt nu hh kn1 bf → mo_K w w1 r → hw_Ji p l e (hw_R 3 0 0) s m args below meth c 6 g A (fun r0 w' => ∃ kn' : Nat → Int32, mo_I g w' r ty wo nx sz ft (nI v) (nI kc) lv hg em hn pl ch bg en ma lt nu hh kn' bf ∧ mo_K w w' r) 0 0 107 [some (.ref (r 9)), some (.int x), some (.int y), some (.int (1 : Int32)), none, none] [] w1 := fun kn1 w1 => L107 (mo_cz kn1 21 + 1) kn1 w1 (by omega)
  have G45 : mo_l x → mo_l y → hw_Ji p l e (hw_R 3 0 0) s m args below meth c 6 g A (fun r0 w' => ∃ kn' : Nat → Int32, mo_I g w' r ty wo nx sz ft (nI v) (nI kc) lv hg em hn pl ch bg en ma lt nu hh kn' bf ∧ mo_K w w' r) 0 0 45 [some (.ref (r 9)), some (.int x), some (.int y), none, none, none] [] w := by
    rintro ⟨qx, hx1, hx2⟩ ⟨qy, hy1, hy2⟩
    have ex : (10 : Int32) + x = nI qx := by rw [hx2]; exact mo_lp qx (by omega)
    have ey : (10 : Int32) + y = nI qy := by rw [hy2]; exact mo_lp qy (by omega)
    refine sg_Mo_forced_45 X (fun _ _ _ _ _ _ h => h) (hw_rti X hr hlk) ?_
    unfold vc_Mo_forced_45
    refine ⟨hw_o_of M rfl rfl, hw_cv_0 (by decide) (by decide) (ct_Mo_forget l g w H0) (Nat.zero_le _) (Nat.zero_le _) ?_⟩
    rintro w1 ⟨kn1, -, H1, hK1⟩
    have HA := fun z : Int32 => mo_u7 (upd kn1 qx z) H1
    have HB := fun z z2 : Int32 => mo_u7 (upd (upd kn1 qx z) qy z2) (HA z)
    have HC := fun z z2 z3 : Int32 => mo_u7 (upd (upd (upd kn1 qx z) qy z2) 10 z3) (HB z z2)
    have KA : ∀ {w2 : hw_H} {e1 : Option va_E}, mo_K w w2 r → mo_K w (va_up w2 (r 7) e1) r := fun z => mo_K_u z (by decide)
    refine ⟨_, ⟨_, H1.2.1, rfl⟩, fun _ => ⟨_, hw_wx qx H1.2.2.2.2.2.2.2.2.2.1 ex (by omega) (by decide), _, ⟨_, (HA _).2.1, rfl⟩, fun _ => ⟨_, hw_wx qy (HA _).2.2.2.2.2.2.2.2.2.1 ey (by omega) (by decide), _, ⟨_, (HB _ _).2.1, rfl⟩, _, hw_wx 10 (HB _ _).2.2.2.2.2.2.2.2.2.1 rfl (by decide) (by decide), G107 _ _ (HC _ _ _) (KA (KA (KA hK1)))⟩, fun _ => ⟨_, ⟨_, (HA _).2.1, rfl⟩, _, hw_rx qy (HA _).2.2.2.2.2.2.2.2.2.1 ey (by omega) (by decide), fun _ => ⟨_, hw_wx qy (HA _).2.2.2.2.2.2.2.2.2.1 ey (by omega) (by decide), _, ⟨_, (HB _ _).2.1, rfl⟩, _, hw_wx 10 (HB _ _).2.2.2.2.2.2.2.2.2.1 rfl (by decide) (by decide), G107 _ _ (HC _ _ _) (KA (KA (KA hK1)))⟩, fun _ => ⟨_, hw_wx qy (HA _).2.2.2.2.2.2.2.2.2.1 ey (by omega) (by decide), _, ⟨_, (HB _ _).2.1, rfl⟩, _, hw_wx 10 (HB _ _).2.2.2.2.2.2.2.2.2.1 rfl (by decide) (by decide), G107 _ _ (HC _ _ _) (KA (KA (KA hK1)))⟩⟩⟩, fun _ => ⟨_, hw_wx qx H1.2.2.2.2.2.2.2.2.2.1 ex (by omega) (by decide), _, ⟨_, (HA _).2.1, rfl⟩, fun _ => ⟨_, hw_wx qy (HA _).2.2.2.2.2.2.2.2.2.1 ey (by omega) (by decide), _, ⟨_, (HB _ _).2.1, rfl⟩, _, hw_wx 10 (HB _ _).2.2.2.2.2.2.2.2.2.1 rfl (by decide) (by decide), G107 _ _ (HC _ _ _) (KA (KA (KA hK1)))⟩, fun _ => ⟨_, ⟨_, (HA _).2.1, rfl⟩, _, hw_rx qy (HA _).2.2.2.2.2.2.2.2.2.1 ey (by omega) (by decide), fun _ => ⟨_, hw_wx qy (HA _).2.2.2.2.2.2.2.2.2.1 ey (by omega) (by decide), _, ⟨_, (HB _ _).2.1, rfl⟩, _, hw_wx 10 (HB _ _).2.2.2.2.2.2.2.2.2.1 rfl (by decide) (by decide), G107 _ _ (HC _ _ _) (KA (KA (KA hK1)))⟩, fun _ => ⟨_, hw_wx qy (HA _).2.2.2.2.2.2.2.2.2.1 ey (by omega) (by decide), _, ⟨_, (HB _ _).2.1, rfl⟩, _, hw_wx 10 (HB _ _).2.2.2.2.2.2.2.2.2.1 rfl (by decide) (by decide), G107 _ _ (HC _ _ _) (KA (KA (KA hK1)))⟩⟩⟩⟩
  refine ⟨_, ⟨_, M, rfl⟩, _, ⟨_, M, rfl⟩, hw_ci_0 (by decide) (by decide) (ct_Mo_in l g w) (Nat.zero_le _) (Nat.zero_le _) ?_⟩
  rintro r1 w1 ⟨hr1, rfl⟩
  refine ⟨fun _ => ⟨hw_00, kn, H0, mo_K_r⟩, fun h1 => ⟨_, ⟨_, M, rfl⟩, _, ⟨_, M, rfl⟩, hw_ci_0 (by decide) (by decide) (ct_Mo_in l g w1) (Nat.zero_le _) (Nat.zero_le _) ?_⟩⟩
  rintro r2 w2 ⟨hr2, rfl⟩
  refine ⟨fun _ => ⟨hw_00, kn, H0, mo_K_r⟩, fun h2 => ?_⟩
  rw [hr1] at h1
  rw [hr2] at h2
  have lx : mo_l x := mo_l_in hv ((hw_z_ne _).mp h1)
  have ly : mo_l y := mo_l_in hv ((hw_z_ne _).mp h2)
  exact ⟨fun _ => G45 lx ly, fun _ => ⟨fun _ => G45 lx ly, fun _ => ⟨hw_00, kn, H0, mo_K_r⟩⟩⟩
set_option maxHeartbeats 4000000 in
set_option maxRecDepth 100000 in
theorem ct_Mo_line (l : Launch) (g : hw_G) (w : hw_H) {r : Nat → Nat} {wo nx sz ft hg em hn pl : Int32} {ch bg en ma lt nu hh kn bf : Nat → Int32} {L v kc Lv : Nat} (H : mo_I g w r (nI L) wo nx sz ft (nI v) (nI kc) (nI Lv) hg em hn pl ch bg en ma lt nu hh kn bf) (hL : L ≤ 160) (hv : v ≤ 10) (hLv : Lv ≤ 40) (hem : hw_b em) (ha : mo_a ma lt) : hw_Mi l g ym_Mo_line mw_Mo_line (hw_R 7 0 0) [.ref (r 9)] w (fun r0 w' => ∃ (wo' nx' sz' ft' hg' em' hn' pl' : Int32) (L' : Nat) (bg' en' ma' lt' nu' hh' kn' bf' : Nat → Int32), L' ≤ 40 ∧ hw_b em' ∧ mo_a ma' lt' ∧ mo_k 24 ma ma' lt lt' ∧ mo_I g w' r 0 wo' nx' sz' ft' (nI v) (nI kc) (nI L') hg' em' hn' pl' ch bg' en' ma' lt' nu' hh' kn' bf' ∧ mo_K w w' r) := by
  refine hw_enteri (r := 2) rfl rfl (by simp [Value.category]) (Nat.le_of_ble_eq_true rfl) ?_
  intro p e s m args below meth c A X hr hlk hnm
  refine sg_Mo_line_0 X (fun _ _ _ _ _ _ h => h) (hw_rti X hr hlk) ?_
  unfold vc_Mo_line_0
  have H0 := H
  obtain ⟨D, M, A0, A1, A2, A3, A4, A5, A6, A7, A8⟩ := H
  refine ⟨hw_o_of M rfl rfl, hw_cv_0 (by decide) (by decide) (ct_Mo_cut (rem := false) l g w H0 hL) (Nat.zero_le _) (Nat.zero_le _) ?_⟩
  rintro w1 ⟨bg1, en1, hwl, hn80, H1, hK1⟩
  have hW := mo_wl_W hwl hn80 hL
  generalize (mo_cw ch L false (L + 1) 0 true false).length = n at H1 hW
  clear hwl hn80
  have D37 : ∀ (x1 ft1 : Int32) (k1 : Nat) (w2 : hw_H), k1 < 999 → mo_I g w2 r 0 (nI n) (nI k1) (nI L) ft1 (nI v) (nI kc) (nI Lv) hg em hn pl ch bg1 en1 ma lt nu hh kn bf → mo_K w w2 r → hw_Ji p l e (hw_R 7 0 0) s m args below meth c 3 g A (fun r0 w' => ∃ (wo' nx' sz' ft' hg' em' hn' pl' : Int32) (L' : Nat) (bg' en' ma' lt' nu' hh' kn' bf' : Nat → Int32), L' ≤ 40 ∧ hw_b em' ∧ mo_a ma' lt' ∧ mo_k 24 ma ma' lt lt' ∧ mo_I g w' r 0 wo' nx' sz' ft' (nI v) (nI kc) (nI L') hg' em' hn' pl' ch bg' en' ma' lt' nu' hh' kn' bf' ∧ mo_K w w' r) 0 0 37 [some (.ref (r 9)), some (.int x1), none] [.int (1 : Int32)] w2 := by
    intro x1 ft1 k1 w2 hk1 H2 hK2
    refine sg_Mo_line_37 X (fun _ _ _ _ _ _ h => h) (hw_rti X hr hlk) ?_
    unfold vc_Mo_line_37
    refine ⟨fun z => absurd z (by decide), fun _ => ⟨_, ⟨_, H2.2.1, rfl⟩, _, ⟨_, H2.2.1, Nat.le_of_ble_eq_true rfl, rfl⟩, ?_⟩⟩
    rw [nI_1]
    have H3 := mo_u9 0 (nI n) (nI (k1 + 1)) (nI L) ft1 (nI v) (nI kc) (nI Lv) hg em hn pl H2
    refine ⟨hw_o_of H3.2.1 rfl rfl, hw_cv_0 (by decide) (by decide) (ct_Mo_readHints l g _ H3 hW (by omega)) (Nat.zero_le _) (Nat.zero_le _) ?_⟩
    rintro w5 ⟨k5, j5, ft5, hh5, hk5, hj5, H5, hK5⟩
    have K5 := mo_K_t (mo_K_u hK2 (by decide)) hK5
    have a5 := ha
    have k5 : mo_k 24 ma ma lt lt := mo_k_r
    obtain ⟨ma5, ema⟩ : ∃ z : Nat → Int32, z = ma := ⟨_, rfl⟩
    obtain ⟨lt5, elt⟩ : ∃ z : Nat → Int32, z = lt := ⟨_, rfl⟩
    rw [← ema, ← elt] at H5 a5
    have k5 : mo_k 24 ma ma5 lt lt5 := by rw [ema, elt]; exact k5
    refine ⟨_, ⟨_, H5.2.1, rfl⟩, fun h8 => ⟨_, ⟨_, H5.2.1, rfl⟩, fun h9 => absurd h9 (Int32.not_lt.mpr h8), fun _ => ⟨_, ⟨_, H5.2.1, rfl⟩, ⟨hw_00, _, _, _, _, hg, em, _, _, Lv, bg1, en1, ma5, lt5, nu, hh5, kn, bf, hLv, hem, a5, k5, H5, K5⟩⟩⟩, fun h8 => ⟨_, ⟨_, H5.2.1, rfl⟩, _, ⟨_, H5.2.1, rfl⟩, fun _ => ⟨_, ⟨_, H5.2.1, rfl⟩, fun _ => ⟨fun z => absurd z (by decide), fun _ => ⟨hw_o_of H5.2.1 rfl rfl, hw_ci_0 (by decide) (by decide) (ct_Mo_delete l g _ H5 hLv hj5 a5) (Nat.zero_le _) (Nat.zero_le _) (by
        rintro r9 w9 ⟨L9, ma9, lt9, nu9, b1, b2, b3, H9, hK9⟩
        exact ⟨hw_00, _, _, _, _, hg, em, _, _, L9, bg1, en1, ma9, lt9, nu9, hh5, kn, bf, b1, hem, b2, mo_k_t k5 b3, H9, mo_K_t K5 hK9⟩)⟩⟩, fun h9 => absurd (Int32.not_le.mp h8) h9⟩, fun _ => ⟨hw_o_of H5.2.1 rfl rfl, hw_cv_0 (by decide) (by decide) (ct_Mo_fail l g _ H5 hW hk5) (Nat.zero_le _) (Nat.zero_le _) ?_⟩⟩⟩
    rintro w6 ⟨H6, hK6⟩
    exact ⟨_, ⟨_, H6.2.1, rfl⟩, fun h9 => absurd h9 (mo_fl_p hW), fun _ => ⟨_, ⟨_, H6.2.1, rfl⟩, ⟨hw_00, _, _, _, _, hg, em, _, _, Lv, bg1, en1, ma5, lt5, nu, hh5, kn, bf, hLv, hem, a5, k5, H6, mo_K_t K5 hK6⟩⟩⟩
  have A37 : ∀ (x1 ft1 : Int32) (k1 : Nat) (w2 : hw_H), k1 < 999 → mo_I g w2 r 0 (nI n) (nI k1) (nI L) ft1 (nI v) (nI kc) (nI Lv) hg em hn pl ch bg1 en1 ma lt nu hh kn bf → mo_K w w2 r → hw_Ji p l e (hw_R 7 0 0) s m args below meth c 3 g A (fun r0 w' => ∃ (wo' nx' sz' ft' hg' em' hn' pl' : Int32) (L' : Nat) (bg' en' ma' lt' nu' hh' kn' bf' : Nat → Int32), L' ≤ 40 ∧ hw_b em' ∧ mo_a ma' lt' ∧ mo_k 24 ma ma' lt lt' ∧ mo_I g w' r 0 wo' nx' sz' ft' (nI v) (nI kc) (nI L') hg' em' hn' pl' ch bg' en' ma' lt' nu' hh' kn' bf' ∧ mo_K w w' r) 0 0 37 [some (.ref (r 9)), some (.int x1), none] [.int (0 : Int32)] w2 := by
    intro x1 ft1 k1 w2 hk1 H2 hK2
    have TL : ∀ (ft3 : Int32) (k3 : Nat) (ma5 lt5 : Nat → Int32) (w3 : hw_H), k3 < 1000 → mo_a ma5 lt5 → mo_k 24 ma ma5 lt lt5 → mo_I g w3 r 0 (nI n) (nI k3) (nI L) ft3 (nI v) (nI kc) (nI Lv) hg em hn pl ch bg1 en1 ma5 lt5 nu hh kn bf → mo_K w w3 r → (hw_o w3 (r 9) "ProofCourtModel" ∧ hw_cv l g (hw_R 7 0 0) 0 0 ym_Mo_readHints (mw_Mo_readHints) 5 [.ref (r 9), .int (-999 : Int32)] w3 (fun (k6 n7 : Nat) (w5 : hw_H) => ∃ x_8 : Int32, hw_g w5 (r 9) 8 7 (.int x_8) ∧ (((0 ≤ x_8) → (∃ x_9 : Int32, hw_g w5 (r 9) 8 7 (.int x_9) ∧ (((x_9 < 0) → ((((0 : Int32) = 0) → (hw_o w5 (r 9) "ProofCourtModel" ∧ hw_ci l g (hw_R 7 0 0) k6 n7 ym_Mo_add (mw_Mo_add) 2 [.ref (r 9), .int x1] w5 (fun (k11 n12 : Nat) (x_13 : Int32) (w10 : hw_H) => ((fun (kA nA : Nat) (xA : Int32) (wA : hw_H) => (kA ≤ 0 ∧ nA ≤ 0) ∧ (fun r0 w' => ∃ (wo' nx' sz' ft' hg' em' hn' pl' : Int32) (L' : Nat) (bg' en' ma' lt' nu' hh' kn' bf' : Nat → Int32), L' ≤ 40 ∧ hw_b em' ∧ mo_a ma' lt' ∧ mo_k 24 ma ma' lt lt' ∧ mo_I g w' r 0 wo' nx' sz' ft' (nI v) (nI kc) (nI L') hg' em' hn' pl' ch bg' en' ma' lt' nu' hh' kn' bf' ∧ mo_K w w' r) xA wA)) k11 n12 x_13 w10))) ∧ ((¬ (0 : Int32) = 0) → (hw_o w5 (r 9) "ProofCourtModel" ∧ hw_ci l g (hw_R 7 0 0) k6 n7 ym_Mo_delete (mw_Mo_delete) 4 [.ref (r 9)] w5 (fun (k15 n16 : Nat) (x_17 : Int32) (w14 : hw_H) => ((fun (kA nA : Nat) (xA : Int32) (wA : hw_H) => (kA ≤ 0 ∧ nA ≤ 0) ∧ (fun r0 w' => ∃ (wo' nx' sz' ft' hg' em' hn' pl' : Int32) (L' : Nat) (bg' en' ma' lt' nu' hh' kn' bf' : Nat → Int32), L' ≤ 40 ∧ hw_b em' ∧ mo_a ma' lt' ∧ mo_k 24 ma ma' lt lt' ∧ mo_I g w' r 0 wo' nx' sz' ft' (nI v) (nI kc) (nI L') hg' em' hn' pl' ch bg' en' ma' lt' nu' hh' kn' bf' ∧ mo_K w w' r) xA wA)) k15 n16 x_17 w14))))) ∧ ((¬ x_9 < 0) → (∃ x_18 : Int32, hw_g w5 (r 9) 8 7 (.int x_18) ∧ (((fun (kA nA : Nat) (xA : Int32) (wA : hw_H) => (kA ≤ 0 ∧ nA ≤ 0) ∧ (fun r0 w' => ∃ (wo' nx' sz' ft' hg' em' hn' pl' : Int32) (L' : Nat) (bg' en' ma' lt' nu' hh' kn' bf' : Nat → Int32), L' ≤ 40 ∧ hw_b em' ∧ mo_a ma' lt' ∧ mo_k 24 ma ma' lt lt' ∧ mo_I g w' r 0 wo' nx' sz' ft' (nI v) (nI kc) (nI L') hg' em' hn' pl' ch bg' en' ma' lt' nu' hh' kn' bf' ∧ mo_K w w' r) xA wA)) k6 n7 ((-1 : Int32) - x_18) w5)))))) ∧ ((¬ 0 ≤ x_8) → (∃ x_19 : Int32, hw_g w5 (r 9) 8 5 (.int x_19) ∧ (∃ x_20 : Int32, hw_g w5 (r 9) 8 2 (.int x_20) ∧ (((x_20 ≤ x_19) → (∃ x_21 : Int32, hw_g w5 (r 9) 8 7 (.int x_21) ∧ (((x_21 < 0) → ((((0 : Int32) = 0) → (hw_o w5 (r 9) "ProofCourtModel" ∧ hw_ci l g (hw_R 7 0 0) k6 n7 ym_Mo_add (mw_Mo_add) 2 [.ref (r 9), .int x1] w5 (fun (k23 n24 : Nat) (x_25 : Int32) (w22 : hw_H) => ((fun (kA nA : Nat) (xA : Int32) (wA : hw_H) => (kA ≤ 0 ∧ nA ≤ 0) ∧ (fun r0 w' => ∃ (wo' nx' sz' ft' hg' em' hn' pl' : Int32) (L' : Nat) (bg' en' ma' lt' nu' hh' kn' bf' : Nat → Int32), L' ≤ 40 ∧ hw_b em' ∧ mo_a ma' lt' ∧ mo_k 24 ma ma' lt lt' ∧ mo_I g w' r 0 wo' nx' sz' ft' (nI v) (nI kc) (nI L') hg' em' hn' pl' ch bg' en' ma' lt' nu' hh' kn' bf' ∧ mo_K w w' r) xA wA)) k23 n24 x_25 w22))) ∧ ((¬ (0 : Int32) = 0) → (hw_o w5 (r 9) "ProofCourtModel" ∧ hw_ci l g (hw_R 7 0 0) k6 n7 ym_Mo_delete (mw_Mo_delete) 4 [.ref (r 9)] w5 (fun (k27 n28 : Nat) (x_29 : Int32) (w26 : hw_H) => ((fun (kA nA : Nat) (xA : Int32) (wA : hw_H) => (kA ≤ 0 ∧ nA ≤ 0) ∧ (fun r0 w' => ∃ (wo' nx' sz' ft' hg' em' hn' pl' : Int32) (L' : Nat) (bg' en' ma' lt' nu' hh' kn' bf' : Nat → Int32), L' ≤ 40 ∧ hw_b em' ∧ mo_a ma' lt' ∧ mo_k 24 ma ma' lt lt' ∧ mo_I g w' r 0 wo' nx' sz' ft' (nI v) (nI kc) (nI L') hg' em' hn' pl' ch bg' en' ma' lt' nu' hh' kn' bf' ∧ mo_K w w' r) xA wA)) k27 n28 x_29 w26))))) ∧ ((¬ x_21 < 0) → (∃ x_30 : Int32, hw_g w5 (r 9) 8 7 (.int x_30) ∧ (((fun (kA nA : Nat) (xA : Int32) (wA : hw_H) => (kA ≤ 0 ∧ nA ≤ 0) ∧ (fun r0 w' => ∃ (wo' nx' sz' ft' hg' em' hn' pl' : Int32) (L' : Nat) (bg' en' ma' lt' nu' hh' kn' bf' : Nat → Int32), L' ≤ 40 ∧ hw_b em' ∧ mo_a ma' lt' ∧ mo_k 24 ma ma' lt lt' ∧ mo_I g w' r 0 wo' nx' sz' ft' (nI v) (nI kc) (nI L') hg' em' hn' pl' ch bg' en' ma' lt' nu' hh' kn' bf' ∧ mo_K w w' r) xA wA)) k6 n7 ((-1 : Int32) - x_30) w5)))))) ∧ ((¬ x_20 ≤ x_19) → (hw_o w5 (r 9) "ProofCourtModel" ∧ hw_cv l g (hw_R 7 0 0) k6 n7 ym_Mo_fail (mw_Mo_fail) 1 [.ref (r 9)] w5 (fun (k32 n33 : Nat) (w31 : hw_H) => ∃ x_34 : Int32, hw_g w31 (r 9) 8 7 (.int x_34) ∧ (((x_34 < 0) → ((((0 : Int32) = 0) → (hw_o w31 (r 9) "ProofCourtModel" ∧ hw_ci l g (hw_R 7 0 0) k32 n33 ym_Mo_add (mw_Mo_add) 2 [.ref (r 9), .int x1] w31 (fun (k36 n37 : Nat) (x_38 : Int32) (w35 : hw_H) => ((fun (kA nA : Nat) (xA : Int32) (wA : hw_H) => (kA ≤ 0 ∧ nA ≤ 0) ∧ (fun r0 w' => ∃ (wo' nx' sz' ft' hg' em' hn' pl' : Int32) (L' : Nat) (bg' en' ma' lt' nu' hh' kn' bf' : Nat → Int32), L' ≤ 40 ∧ hw_b em' ∧ mo_a ma' lt' ∧ mo_k 24 ma ma' lt lt' ∧ mo_I g w' r 0 wo' nx' sz' ft' (nI v) (nI kc) (nI L') hg' em' hn' pl' ch bg' en' ma' lt' nu' hh' kn' bf' ∧ mo_K w w' r) xA wA)) k36 n37 x_38 w35))) ∧ ((¬ (0 : Int32) = 0) → (hw_o w31 (r 9) "ProofCourtModel" ∧ hw_ci l g (hw_R 7 0 0) k32 n33 ym_Mo_delete (mw_Mo_delete) 4 [.ref (r 9)] w31 (fun (k40 n41 : Nat) (x_42 : Int32) (w39 : hw_H) => ((fun (kA nA : Nat) (xA : Int32) (wA : hw_H) => (kA ≤ 0 ∧ nA ≤ 0) ∧ (fun r0 w' => ∃ (wo' nx' sz' ft' hg' em' hn' pl' : Int32) (L' : Nat) (bg' en' ma' lt' nu' hh' kn' bf' : Nat → Int32), L' ≤ 40 ∧ hw_b em' ∧ mo_a ma' lt' ∧ mo_k 24 ma ma' lt lt' ∧ mo_I g w' r 0 wo' nx' sz' ft' (nI v) (nI kc) (nI L') hg' em' hn' pl' ch bg' en' ma' lt' nu' hh' kn' bf' ∧ mo_K w w' r) xA wA)) k40 n41 x_42 w39))))) ∧ ((¬ x_34 < 0) → (∃ x_43 : Int32, hw_g w31 (r 9) 8 7 (.int x_43) ∧ (((fun (kA nA : Nat) (xA : Int32) (wA : hw_H) => (kA ≤ 0 ∧ nA ≤ 0) ∧ (fun r0 w' => ∃ (wo' nx' sz' ft' hg' em' hn' pl' : Int32) (L' : Nat) (bg' en' ma' lt' nu' hh' kn' bf' : Nat → Int32), L' ≤ 40 ∧ hw_b em' ∧ mo_a ma' lt' ∧ mo_k 24 ma ma' lt lt' ∧ mo_I g w' r 0 wo' nx' sz' ft' (nI v) (nI kc) (nI L') hg' em' hn' pl' ch bg' en' ma' lt' nu' hh' kn' bf' ∧ mo_K w w' r) xA wA)) k32 n33 ((-1 : Int32) - x_43) w31)))))))))))))) := by
      intro ft3 k3 ma5 lt5 w3 hk3 a5 k5 H3 hK3
      refine ⟨hw_o_of H3.2.1 rfl rfl, hw_cv_0 (by decide) (by decide) (ct_Mo_readHints l g _ H3 hW hk3) (Nat.zero_le _) (Nat.zero_le _) ?_⟩
      rintro w5 ⟨k5', j5, ft5, hh5, hk5, hj5, H5, hK5⟩
      have K5 := mo_K_t hK3 hK5
      refine ⟨_, ⟨_, H5.2.1, rfl⟩, fun h8 => ⟨_, ⟨_, H5.2.1, rfl⟩, fun h9 => absurd h9 (Int32.not_lt.mpr h8), fun _ => ⟨_, ⟨_, H5.2.1, rfl⟩, ⟨hw_00, _, _, _, _, hg, em, _, _, Lv, bg1, en1, ma5, lt5, nu, hh5, kn, bf, hLv, hem, a5, k5, H5, K5⟩⟩⟩, fun h8 => ⟨_, ⟨_, H5.2.1, rfl⟩, _, ⟨_, H5.2.1, rfl⟩, fun _ => ⟨_, ⟨_, H5.2.1, rfl⟩, fun _ => ⟨fun _ => ⟨hw_o_of H5.2.1 rfl rfl, hw_ci_0 (by decide) (by decide) (ct_Mo_add l g _ H5 hLv hj5 a5 hem) (Nat.zero_le _) (Nat.zero_le _) (by
          rintro r9 w9 ⟨L9, hg9, em9, pl9, ma9, lt9, nu9, kn9, bf9, b1, b4, b2, b3, H9, hK9⟩
          exact ⟨hw_00, _, _, _, _, hg9, em9, _, pl9, L9, bg1, en1, ma9, lt9, nu9, hh5, kn9, bf9, b1, b4, b2, mo_k_t k5 b3, H9, mo_K_t K5 hK9⟩)⟩, fun z => absurd rfl z⟩, fun h9 => absurd (Int32.not_le.mp h8) h9⟩, fun _ => ⟨hw_o_of H5.2.1 rfl rfl, hw_cv_0 (by decide) (by decide) (ct_Mo_fail l g _ H5 hW hk5) (Nat.zero_le _) (Nat.zero_le _) ?_⟩⟩⟩
      rintro w6 ⟨H6, hK6⟩
      exact ⟨_, ⟨_, H6.2.1, rfl⟩, fun h9 => absurd h9 (mo_fl_p hW), fun _ => ⟨_, ⟨_, H6.2.1, rfl⟩, ⟨hw_00, _, _, _, _, hg, em, _, _, Lv, bg1, en1, ma5, lt5, nu, hh5, kn, bf, hLv, hem, a5, k5, H6, mo_K_t K5 hK6⟩⟩⟩
    refine sg_Mo_line_37 X (fun _ _ _ _ _ _ h => h) (hw_rti X hr hlk) ?_
    unfold vc_Mo_line_37
    refine ⟨fun _ => ⟨_, ⟨_, H2.2.1, rfl⟩, hw_o_of H2.2.1 rfl rfl, ?_⟩, fun z => absurd rfl z⟩
    by_cases hft : ft1 < 0
    · refine hw_cv_0 (by decide) (by decide) (ct_Mo_readClause (kc := 64) l g w2 H2 hW (by omega) (by decide) hv hft) (Nat.zero_le _) (Nat.zero_le _) ?_
      rintro w3 ⟨o, k', ls, lt', -, -, hk', hlc, H3, hK3⟩
      exact TL _ k' _ lt' w3 hk' (mo_a_lc ha hlc) (mo_k_c (j := ls.length) (by decide) hlc.2.2) H3 (mo_K_t hK2 hK3)
    · refine hw_cv_0 (by decide) (by decide) (ct_Mo_readClauseE (kc := 64) l g w2 H2 hW (by omega) (by decide) hv hft) (Nat.zero_le _) (Nat.zero_le _) ?_
      rintro w3 ⟨H3, hK3⟩
      have a3 : mo_a (upd ma 64 0) lt := ⟨fun i hi => by
        by_cases hi6 : i = 64
        · subst hi6; exact ⟨0, by decide, pk_us⟩
        · rw [pk_un hi6]; exact ha.1 i hi, ha.2⟩
      exact TL _ k1 _ lt w3 (by omega) a3 ⟨fun i hi => pk_un (by omega), fun _ _ => rfl⟩ H3 (mo_K_t hK2 hK3)
  have A36 : ∀ (x1 ft1 : Int32) (k1 : Nat) (w2 : hw_H), k1 < 999 → mo_I g w2 r 0 (nI n) (nI k1) (nI L) ft1 (nI v) (nI kc) (nI Lv) hg em hn pl ch bg1 en1 ma lt nu hh kn bf → mo_K w w2 r → hw_Ji p l e (hw_R 7 0 0) s m args below meth c 3 g A (fun r0 w' => ∃ (wo' nx' sz' ft' hg' em' hn' pl' : Int32) (L' : Nat) (bg' en' ma' lt' nu' hh' kn' bf' : Nat → Int32), L' ≤ 40 ∧ hw_b em' ∧ mo_a ma' lt' ∧ mo_k 24 ma ma' lt lt' ∧ mo_I g w' r 0 wo' nx' sz' ft' (nI v) (nI kc) (nI L') hg' em' hn' pl' ch bg' en' ma' lt' nu' hh' kn' bf' ∧ mo_K w w' r) 0 0 36 [some (.ref (r 9)), some (.int x1), none] [] w2 := by
    intro x1 ft1 k1 w2 hk1 H2 hK2
    refine sg_Mo_line_36 X (fun _ _ _ _ _ _ h => h) (hw_rti X hr hlk) ?_
    unfold vc_Mo_line_36
    exact A37 x1 ft1 k1 w2 hk1 H2 hK2
  have H1 : mo_I g w1 r 0 (nI n) (nI 0) (nI L) (-1) (nI v) (nI kc) (nI Lv) hg em hn pl ch bg1 en1 ma lt nu hh kn bf := H1
  refine ⟨hw_o_of H1.2.1 rfl rfl, hw_ci_0 (by decide) (by decide) (ct_Mo_take l g w1 H1 hW (by decide)) (Nat.zero_le _) (Nat.zero_le _) ?_⟩
  rintro r2 w2 ⟨hK2, hcase⟩
  have hK2 := mo_K_t hK1 hK2
  have REST : ∀ (k1 : Nat) (ft1 : Int32), k1 < 999 → mo_I g w2 r 0 (nI n) (nI k1) (nI L) ft1 (nI v) (nI kc) (nI Lv) hg em hn pl ch bg1 en1 ma lt nu hh kn bf → (∃ x_8 : Int32, hw_g w2 (r 9) 8 7 (.int x_8) ∧ (((0 ≤ x_8) → ((fun (kA nA pcA : Nat) (lvA : List (Option Value)) (stA : List Value) (wA : hw_H) => hw_Ji p l e (hw_R 7 0 0) s m args below meth c 3 g A (fun r0 w' => ∃ (wo' nx' sz' ft' hg' em' hn' pl' : Int32) (L' : Nat) (bg' en' ma' lt' nu' hh' kn' bf' : Nat → Int32), L' ≤ 40 ∧ hw_b em' ∧ mo_a ma' lt' ∧ mo_k 24 ma ma' lt lt' ∧ mo_I g w' r 0 wo' nx' sz' ft' (nI v) (nI kc) (nI L') hg' em' hn' pl' ch bg' en' ma' lt' nu' hh' kn' bf' ∧ mo_K w w' r) kA nA pcA lvA stA wA) 0 0 36 [some (.ref (r 9)), some (.int r2), none] [] w2)) ∧ ((¬ 0 ≤ x_8) → (hw_o w2 (r 9) "ProofCourtModel" ∧ hw_ci l g (hw_R 7 0 0) 0 0 ym_Mo_isWord (mw_Mo_isWord) 6 [.ref (r 9), .int (100 : Int32), .int (0 : Int32), .int (0 : Int32)] w2 (fun (k10 n11 : Nat) (x_12 : Int32) (w9 : hw_H) => ((x_12 = 0) → ((fun (kA nA pcA : Nat) (lvA : List (Option Value)) (stA : List Value) (wA : hw_H) => hw_Ji p l e (hw_R 7 0 0) s m args below meth c 3 g A (fun r0 w' => ∃ (wo' nx' sz' ft' hg' em' hn' pl' : Int32) (L' : Nat) (bg' en' ma' lt' nu' hh' kn' bf' : Nat → Int32), L' ≤ 40 ∧ hw_b em' ∧ mo_a ma' lt' ∧ mo_k 24 ma ma' lt lt' ∧ mo_I g w' r 0 wo' nx' sz' ft' (nI v) (nI kc) (nI L') hg' em' hn' pl' ch bg' en' ma' lt' nu' hh' kn' bf' ∧ mo_K w w' r) kA nA pcA lvA stA wA) k10 n11 36 [some (.ref (r 9)), some (.int r2), none] [] w9)) ∧ ((¬ x_12 = 0) → ((fun (kA nA pcA : Nat) (lvA : List (Option Value)) (stA : List Value) (wA : hw_H) => hw_Ji p l e (hw_R 7 0 0) s m args below meth c 3 g A (fun r0 w' => ∃ (wo' nx' sz' ft' hg' em' hn' pl' : Int32) (L' : Nat) (bg' en' ma' lt' nu' hh' kn' bf' : Nat → Int32), L' ≤ 40 ∧ hw_b em' ∧ mo_a ma' lt' ∧ mo_k 24 ma ma' lt lt' ∧ mo_I g w' r 0 wo' nx' sz' ft' (nI v) (nI kc) (nI L') hg' em' hn' pl' ch bg' en' ma' lt' nu' hh' kn' bf' ∧ mo_K w w' r) kA nA pcA lvA stA wA) k10 n11 37 [some (.ref (r 9)), some (.int r2), none] [.int (1 : Int32)] w9))))))) := by
    intro k1 ft1 hk1 H2
    refine ⟨_, ⟨_, H2.2.1, rfl⟩, fun _ => A36 _ _ k1 w2 hk1 H2 hK2, fun _ => ⟨hw_o_of H2.2.1 rfl rfl, hw_ci_0 (by decide) (by decide) (ct_Mo_isWord l g w2 H2 hW (by omega)) (Nat.zero_le _) (Nat.zero_le _) ?_⟩⟩
    rintro r3 w3 ⟨-, rfl⟩
    exact ⟨fun _ => A36 _ _ k1 w3 hk1 H2 hK2, fun _ => D37 _ _ k1 w3 hk1 H2 hK2⟩
  rcases hcase with ⟨-, -, H2⟩ | ⟨-, -, -, H2⟩ | ⟨-, -, -, H2⟩
  · exact REST 0 _ (by decide) H2
  · exact REST 1 _ (by decide) H2
  · exact REST 0 _ (by decide) H2
