abbrev fg_R : Type := Option (Int32 × List (Int32 × List Int32)) × (Nat × Nat)
def fg_ie (f : Nat → Int32) (len : Nat) (v m : Int32) (q : Nat × Nat) : fg_R := match fg_cl f len 1 v m.toNatClampNeg q [] with
  | (none, q') => (none, q')
  | (some cs, q') => if nI q'.1 < nI len then (none, q') else (some (v, cs), q')
def fg_id (f : Nat → Int32) (len : Nat) (v : Int32) (q : Nat × Nat) : fg_R := match tx_num f q.1 q.2 with
  | none => (none, q)
  | some m => if tx_in m 0 24 = true then fg_ie f len v m (tx_adv f len 1 q.2) else (none, q)
def fg_ic (f : Nat → Int32) (len : Nat) (q : Nat × Nat) : fg_R := match tx_num f q.1 q.2 with
  | none => (none, q)
  | some v => if tx_in v 1 10 = true then fg_id f len v (tx_adv f len 1 q.2) else (none, q)
def fg_ib (f : Nat → Int32) (len : Nat) (q : Nat × Nat) : fg_R := if tx_is f q.1 q.2 2 = true then fg_ic f len (tx_adv f len 1 q.2) else (none, q)
def fg_ia (f : Nat → Int32) (len : Nat) (q : Nat × Nat) : fg_R := if tx_is f q.1 q.2 1 = true then fg_ib f len (tx_adv f len 1 q.2) else (none, q)
/-- the formula that is told, or none with the place of the fault -/
def fg_in (f : Nat → Int32) (len : Nat) : fg_R := fg_ia f len (tx_adv f len 1 0)
theorem tx_in24 {m : Int32} (h : tx_in m 0 24 = true) : ∃ j : Nat, j ≤ 24 ∧ m = nI j ∧ m.toNatClampNeg = j := by
  simp only [tx_in, Bool.and_eq_true, Bool.not_eq_true', decide_eq_false_iff_not] at h
  obtain ⟨j, hj, rfl⟩ := nI_of h.1
  refine ⟨j, ?_, rfl, nI_clamp hj⟩
  rcases Nat.lt_or_ge 24 j with z | z
  · exact absurd (show (24 : Int32) < nI j from nI_lt (a := 24) (b := j) z hj) h.2
  · exact z
set_option maxHeartbeats 4000000 in
set_option maxRecDepth 100000 in
theorem ct_Fo_formulaIn (l : Launch) (g : hw_G) (w : hw_H) {T TC len : Nat} {sk st en nu : Int32} {f : Nat → Int32} (hT : w T = some (tx_o TC (nI len) sk st en nu)) (hC : w TC = some (.inl (g.2.1 1, 160, .inl f))) (hl : len ≤ 160) : hw_Mq l g ym_Fo_formulaIn mw_Fo_formulaIn (hw_R 10 50 268) [.ref T] w (fun o w' => ∃ (q : Nat × Nat) (nu' : Int32), q.1 ≤ q.2 ∧ q.2 ≤ len ∧ w' T = some (tx_o TC (nI len) 1 (nI q.1) (nI q.2) nu') ∧ (∀ y, w y ≠ none → y ≠ T → w' y = w y) ∧ ((o = none ∧ fg_in f len = (none, q)) ∨ ∃ (F fa : Nat) (v : Int32) (cs : List (Int32 × List Int32)) (h : Nat → Option Nat), o = some F ∧ w F = none ∧ w fa = none ∧ w' F = some (fg_o v fa cs.length (-1)) ∧ w' fa = some (ar_q g 24 h) ∧ cs.length ≤ 24 ∧ fg_ar g w' h cs ∧ fg_in f len = (some (v, cs), q))) := by
  refine hw_enterq (r := 1) rfl rfl (by simp [Value.category]) (Nat.le_of_ble_eq_true rfl) ?_
  intro p e s m args below meth c A X hr hlk hnm
  refine sg_Fo_formulaIn_0 X (fun _ _ _ _ _ _ h => h) (hw_rtq X hr hlk) ?_
  unfold vc_Fo_formulaIn_0
  have nTTC : T ≠ TC := by rintro rfl; rw [hT] at hC; cases hC
  have no : ∀ (k n : Nat) (q : Nat × Nat) (nu1 : Int32) (wx : hw_H), k ≤ 50 → n ≤ 268 → q.1 ≤ q.2 → q.2 ≤ len → wx T = some (tx_o TC (nI len) 1 (nI q.1) (nI q.2) nu1) → (∀ y, w y ≠ none → y ≠ T → wx y = w y) → fg_in f len = (none, q) → ((k ≤ 50 ∧ n ≤ 268) ∧ (fun o w' => ∃ (q : Nat × Nat) (nu' : Int32), q.1 ≤ q.2 ∧ q.2 ≤ len ∧ w' T = some (tx_o TC (nI len) 1 (nI q.1) (nI q.2) nu') ∧ (∀ y, w y ≠ none → y ≠ T → w' y = w y) ∧ ((o = none ∧ fg_in f len = (none, q)) ∨ ∃ (F fa : Nat) (v : Int32) (cs : List (Int32 × List Int32)) (h : Nat → Option Nat), o = some F ∧ w F = none ∧ w fa = none ∧ w' F = some (fg_o v fa cs.length (-1)) ∧ w' fa = some (ar_q g 24 h) ∧ cs.length ≤ 24 ∧ fg_ar g w' h cs ∧ fg_in f len = (some (v, cs), q))) none wx) := fun k n q nu1 wx hk hn h1 h2 aT kp hi => ⟨⟨hk, hn⟩, q, nu1, h1, h2, aT, kp, Or.inl ⟨rfl, hi⟩⟩
  have hC1 : ∀ x, (va_up w T x) TC = some (.inl (g.2.1 1, 160, .inl f)) := fun x => by rw [va_up_ne _ _ nTTC.symm]; exact hC
  have kp1 : ∀ x y, w y ≠ none → y ≠ T → (va_up w T x) y = w y := fun x y _ hy => va_up_ne _ _ hy
  refine ⟨hw_o_of hT rfl rfl, hw_cv_0 (by decide) (by decide) (ct_Te_rewind l g w hT hC hl (Or.inr rfl)) (Nat.le_of_ble_eq_true rfl) (Nat.le_of_ble_eq_true rfl) ?_⟩
  rintro w1 rfl
  have b1 := tx_adv_b (f := f) (sk := 1) (Nat.zero_le len)
  have hin : fg_in f len = fg_ia f len (tx_adv f len 1 0) := rfl
  generalize tx_adv f len 1 0 = q1 at b1 hin ⊢
  refine ⟨hw_o_of (va_up_self _ _ _) rfl rfl, hw_ci_0 (by decide) (by decide) (ct_Te_passesWord (TC := TC) (len := len) (a := q1.1) (b := q1.2) (sk := 1) (nu := nu) (f := f) (i := 1) l g _ (va_up_self _ _ _) (hC1 _) hl b1.2.1 b1.2.2 (by decide)) (Nat.le_of_ble_eq_true rfl) (Nat.le_of_ble_eq_true rfl) ?_⟩
  rintro r w2 ⟨rfl, e2⟩
  unfold fg_ia at hin
  cases hw1 : tx_is f q1.1 q1.2 1 with
  | false =>
    rw [hw1, if_neg (by decide)] at e2 hin
    subst e2
    exact ⟨fun _ => no _ _ q1 nu _ (Nat.le_of_ble_eq_true rfl) (Nat.le_of_ble_eq_true rfl) b1.2.1 b1.2.2 (va_up_self _ _ _) (kp1 _) hin, fun h => absurd rfl h⟩
  | true =>
  rw [hw1, if_pos rfl] at e2 hin
  rw [bx_uu] at e2
  subst e2
  refine ⟨fun h => absurd h (by decide), fun _ => ?_⟩
  have b2 := tx_adv_b (f := f) (sk := 1) b1.2.2
  generalize tx_adv f len 1 q1.2 = q2 at b2 hin ⊢
  refine ⟨hw_o_of (va_up_self _ _ _) rfl rfl, hw_ci_0 (by decide) (by decide) (ct_Te_passesWord (TC := TC) (len := len) (a := q2.1) (b := q2.2) (sk := 1) (nu := nu) (f := f) (i := 2) l g _ (va_up_self _ _ _) (hC1 _) hl b2.2.1 b2.2.2 (by decide)) (Nat.le_of_ble_eq_true rfl) (Nat.le_of_ble_eq_true rfl) ?_⟩
  rintro r w3 ⟨rfl, e3⟩
  unfold fg_ib at hin
  cases hw2 : tx_is f q2.1 q2.2 2 with
  | false =>
    rw [hw2, if_neg (by decide)] at e3 hin
    subst e3
    exact ⟨fun _ => no _ _ q2 nu _ (Nat.le_of_ble_eq_true rfl) (Nat.le_of_ble_eq_true rfl) b2.2.1 b2.2.2 (va_up_self _ _ _) (kp1 _) hin, fun h => absurd rfl h⟩
  | true =>
  rw [hw2, if_pos rfl] at e3 hin
  rw [bx_uu] at e3
  subst e3
  refine ⟨fun h => absurd h (by decide), fun _ => ?_⟩
  have b3 := tx_adv_b (f := f) (sk := 1) b2.2.2
  generalize tx_adv f len 1 q2.2 = q3 at b3 hin ⊢
  refine ⟨hw_o_of (va_up_self _ _ _) rfl rfl, hw_ci_0 (by decide) (by decide) (ct_Te_passesNumber (TC := TC) (len := len) (a := q3.1) (b := q3.2) (sk := 1) (nu := nu) (f := f) (lo := 1) (hi := 10) l g _ (va_up_self _ _ _) (hC1 _) hl b3.2.1 b3.2.2) (Nat.le_of_ble_eq_true rfl) (Nat.le_of_ble_eq_true rfl) ?_⟩
  rintro r w4 ⟨hno, hyes⟩
  unfold fg_ic at hin
  cases hn : tx_num f q3.1 q3.2 with
  | none =>
    obtain ⟨rfl, rfl⟩ := hno hn
    rw [hn] at hin
    exact ⟨fun h => absurd rfl h, fun _ => no _ _ q3 nu _ (Nat.le_of_ble_eq_true rfl) (Nat.le_of_ble_eq_true rfl) b3.2.1 b3.2.2 (va_up_self _ _ _) (kp1 _) hin⟩
  | some v =>
  obtain ⟨rfl, e4⟩ := hyes v hn
  rw [hn] at hin
  dsimp only at hin
  cases hv : tx_in v 1 10 with
  | false =>
    rw [hv, if_neg (by decide)] at e4 hin
    subst e4
    refine ⟨fun h => absurd rfl h, fun _ => no _ _ q3 v _ (Nat.le_of_ble_eq_true rfl) (Nat.le_of_ble_eq_true rfl) b3.2.1 b3.2.2 (va_up_self _ _ _) ?_ hin⟩
    rw [bx_uu]; exact kp1 _
  | true =>
  rw [hv, if_pos rfl] at e4 hin
  rw [bx_uu] at e4
  subst e4
  have b4 := tx_adv_b (f := f) (sk := 1) b3.2.2
  generalize tx_adv f len 1 q3.2 = q4 at b4 hin ⊢
  refine ⟨fun _ => ⟨⟨Nat.le_of_ble_eq_true rfl, Nat.le_of_ble_eq_true rfl⟩, fun F w5 hqF e5 => ?_⟩, fun h => absurd h (by decide)⟩
  subst e5
  have nTF : T ≠ F := hw_nn (va_up_self _ _ _) hqF
  have nCF : TC ≠ F := hw_nn (hC1 _) hqF
  have hwF : w F = none := by rw [va_up_ne _ _ nTF.symm] at hqF; exact hqF
  refine ⟨_, ⟨_, hw_un (va_up_self _ _ _) hqF _, rfl⟩, hw_cv_n (by decide) (by decide) (ct_Fo_init l g _ (va_up_self _ _ _)) (Nat.le_of_ble_eq_true rfl) (Nat.le_of_ble_eq_true rfl) ?_⟩
  rintro w6 ⟨fa, hqa, rfl⟩
  have nFa : F ≠ fa := hw_nn (va_up_self _ _ _) hqa
  have nTa : T ≠ fa := hw_nn (hw_un (va_up_self _ _ _) hqF _) hqa
  have nCa : TC ≠ fa := hw_nn (hw_un (hC1 _) hqF _) hqa
  have hwa : w fa = none := by rw [va_up_ne _ _ nFa.symm, va_up_ne _ _ nTa.symm] at hqa; exact hqa
  generalize hw7 : va_up (va_up (va_up (va_up w T (some (tx_o TC (nI len) 1 (nI q4.1) (nI q4.2) v))) F (some (.inr (3, [.int 0, .null, .int 0, .int 0])))) fa (some (aq_0 g 24))) F (some (.inr (3, [.int v, .ref fa, .int 0, .int (-1)]))) = w7
  have cT : w7 T = some (tx_o TC (nI len) 1 (nI q4.1) (nI q4.2) v) := by rw [← hw7, va_up_ne _ _ nTF, va_up_ne _ _ nTa, va_up_ne _ _ nTF, va_up_self]
  have cC : w7 TC = some (.inl (g.2.1 1, 160, .inl f)) := by rw [← hw7, va_up_ne _ _ nCF, va_up_ne _ _ nCa, va_up_ne _ _ nCF]; exact hC1 _
  have cF : w7 F = some (fg_o v fa 0 (-1)) := by rw [← hw7, va_up_self]; rfl
  have ca : w7 fa = some (ar_q g 24 (fun _ => none)) := by rw [← hw7, va_up_ne _ _ nFa.symm, va_up_self]
  have kp7 : ∀ y, w y ≠ none → y ≠ T → w7 y = w y := fun y hy yT => by
    have yF : y ≠ F := by rintro rfl; exact hy hwF
    have ya : y ≠ fa := by rintro rfl; exact hy hwa
    rw [← hw7, va_up_ne _ _ yF, va_up_ne _ _ ya, va_up_ne _ _ yF, va_up_ne _ _ yT]
  clear hw7
  refine ⟨hw_o_of cT rfl rfl, hw_ci_0 (by decide) (by decide) (ct_Te_passesNumber (lo := 0) (hi := 24) l g w7 cT cC hl b4.2.1 b4.2.2) (Nat.le_of_ble_eq_true rfl) (Nat.le_of_ble_eq_true rfl) ?_⟩
  rintro r w8 ⟨hno8, hyes8⟩
  unfold fg_id at hin
  cases hn8 : tx_num f q4.1 q4.2 with
  | none =>
    obtain ⟨rfl, rfl⟩ := hno8 hn8
    rw [hn8] at hin
    exact ⟨fun _ => no _ _ q4 v _ (Nat.le_of_ble_eq_true rfl) (Nat.le_of_ble_eq_true rfl) b4.2.1 b4.2.2 cT kp7 hin, fun h => absurd rfl h⟩
  | some mm =>
  obtain ⟨rfl, e8⟩ := hyes8 mm hn8
  rw [hn8] at hin
  dsimp only at hin
  cases hm : tx_in mm 0 24 with
  | false =>
    rw [hm, if_neg (by decide)] at e8 hin
    subst e8
    refine ⟨fun _ => no _ _ q4 mm _ (Nat.le_of_ble_eq_true rfl) (Nat.le_of_ble_eq_true rfl) b4.2.1 b4.2.2 (va_up_self _ _ _) ?_ hin, fun h => absurd rfl h⟩
    intro y hy yT; rw [va_up_ne _ _ yT]; exact kp7 y hy yT
  | true =>
  rw [hm, if_pos rfl] at e8 hin
  subst e8
  have b5 := tx_adv_b (f := f) (sk := 1) b4.2.2
  generalize tx_adv f len 1 q4.2 = q5 at b5 hin ⊢
  obtain ⟨m0, hm0, rfl, hmc⟩ := tx_in24 hm
  unfold fg_ie at hin
  rw [hmc] at hin
  have dF : ∀ x, (va_up w7 T x) F = some (fg_o v fa 0 (-1)) := fun x => by rw [va_up_ne _ _ nTF.symm]; exact cF
  have da : ∀ x, (va_up w7 T x) fa = some (ar_q g 24 (fun _ => none)) := fun x => by rw [va_up_ne _ _ nTa.symm]; exact ca
  have dC : ∀ x, (va_up w7 T x) TC = some (.inl (g.2.1 1, 160, .inl f)) := fun x => by rw [va_up_ne _ _ nTTC.symm]; exact cC
  refine ⟨fun h => absurd h (by decide), fun _ => ⟨_, ⟨_, (va_up_self _ _ _), rfl⟩, hw_o_of (dF _) rfl rfl, hw_ci_n (by decide) (by decide) (ct_Fo_takesClauses (T := T) (TC := TC) (len := len) (F := F) (fa := fa) (m0 := m0) (q0 := q5) (sk := 1) (nu := nI m0) (v := v) (cnt := -1) (f := f) l g _ (va_up_self _ _ _) (dC _) hl b5.2.1 b5.2.2 (dF _) (da _) hm0) (Nat.le_of_ble_eq_true rfl) (Nat.le_of_ble_eq_true rfl) ?_⟩⟩
  rintro r w9 ⟨q9, nu9, h91, h92, aT9, kp9, hor⟩
  have kpw : ∀ y, w y ≠ none → y ≠ T → w9 y = w y := fun y hy yT => by
    have yF : y ≠ F := by rintro rfl; exact hy hwF
    have ya : y ≠ fa := by rintro rfl; exact hy hwa
    have e7 := kp7 y hy yT
    rw [kp9 y (by rw [va_up_ne _ _ yT, e7]; exact hy) yT yF ya, va_up_ne _ _ yT]
    exact e7
  rcases hor with ⟨rfl, hcl⟩ | ⟨cs, h, rfl, hlen, aF9, aa9, har, hcl⟩
  · rw [hcl] at hin
    exact ⟨fun z => absurd rfl z, fun _ => no _ _ q9 nu9 _ (Nat.le_of_ble_eq_true rfl) (Nat.le_of_ble_eq_true rfl) h91 h92 aT9 kpw hin⟩
  · rw [hcl] at hin
    dsimp only at hin
    refine ⟨fun _ => ⟨hw_o_of aT9 rfl rfl, hw_ci_0 (by decide) (by decide) (ct_Te_isAtEnd l g w9 aT9) (Nat.le_of_ble_eq_true rfl) (Nat.le_of_ble_eq_true rfl) ?_⟩, fun z => absurd z (by decide)⟩
    rintro r w10 ⟨rfl, rfl⟩
    refine ⟨fun z => ?_, fun z => ?_⟩
    · have z2 : nI q9.1 < nI len := by
        have := (hw_z_eq _).mp z
        simpa using this
      rw [if_pos z2] at hin
      exact no _ _ q9 nu9 _ (Nat.le_of_ble_eq_true rfl) (Nat.le_of_ble_eq_true rfl) h91 h92 aT9 kpw hin
    · have z2 : ¬ nI q9.1 < nI len := by
        have := (hw_z_ne _).mp z
        simpa using this
      rw [if_neg z2] at hin
      exact ⟨⟨Nat.le_of_ble_eq_true rfl, Nat.le_of_ble_eq_true rfl⟩, q9, nu9, h91, h92, aT9, kpw, Or.inr ⟨F, fa, v, cs, h, rfl, hwF, hwa, aF9, aa9, by omega, har, hin⟩⟩
