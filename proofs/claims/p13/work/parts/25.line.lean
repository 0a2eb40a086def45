/-- Text as a walk leaves it -/
def tx_S (w : hw_H) (T TC len : Nat) (sk : Int32) : Prop := ∃ (q : Nat × Nat) (nu : Int32), q.1 ≤ q.2 ∧ q.2 ≤ len ∧ w T = some (tx_o TC (nI len) sk (nI q.1) (nI q.2) nu)
def cl_s (g : hw_G) (w : hw_H) (c : Nat) : Prop := ∃ (num : Int32) (ls : List Int32), cl_ok g w c num ls
theorem cl_s_k {g : hw_G} {w w' : hw_H} {S : Nat → Prop} {c : Nat} (h : cl_s g w c) (hk : ∀ y, w y ≠ none → ¬ S y → w' y = w y) (hS : ∀ y e, w y = some e → S y → cl_no e) : cl_s g w' c := by
  obtain ⟨num, ls, h1⟩ := h
  exact ⟨num, ls, cl_ok_k h1 hk hS⟩
abbrev li_o (num : Int32) (o : Option Nat) (na k : Nat) : va_E := .inr (6, [.int num, va_rf o, .ref na, .int (nI k)])
abbrev ar_i (g : hw_G) (n : Nat) (f : Nat → Int32) : va_E := .inl (g.2.1 0, n, .inl f)
set_option maxHeartbeats 4000000 in
set_option maxRecDepth 100000 in
theorem ct_Li_init (l : Launch) (g : hw_G) (w : hw_H) {L : Nat} {x : Int32} (hL : w L = some (.inr (6, [.int 0, .null, .null, .int 0]))) : hw_Mv l g ym_Li_init mw_Li_init (hw_R 1 1 12) [.ref L, .int x] w (fun w' => ∃ q : Nat, w q = none ∧ w' = va_up (va_up w q (some (ai_0 g 0 12))) L (some (li_o x none q 0))) := by
  refine hw_enterv (r := 0) rfl rfl (by simp [Value.category]) (Nat.le_of_ble_eq_true rfl) ?_
  intro p e s m args below meth c A X hr hlk hnm
  refine sg_Li_init_0 X hnm ⟨Nat.le_of_ble_eq_true rfl, Nat.le_of_ble_eq_true rfl⟩ (fun _ _ _ _ _ _ h => h) (hw_rtv X hr hlk) ?_
  unfold vc_Li_init_0
  refine ⟨⟨Nat.le_of_ble_eq_true rfl, Nat.le_of_ble_eq_true rfl⟩, fun q1 w2 hq e2 => ?_⟩
  subst e2
  refine ⟨_, ⟨_, hw_un hL hq _, Nat.le_of_ble_eq_true rfl, rfl⟩, _, ⟨_, (va_up_self _ _ _), Nat.le_of_ble_eq_true rfl, rfl⟩, ⟨Nat.le_of_ble_eq_true rfl, Nat.le_of_ble_eq_true rfl⟩, q1, hq, ?_⟩
  exact bx_uu _ _ _ _
set_option maxHeartbeats 4000000 in
set_option maxRecDepth 100000 in
theorem ct_Li_takesClause (l : Launch) (g : hw_G) (w : hw_H) {T TC len L na k0 : Nat} {q0 : Nat × Nat} {sk nu num : Int32} {oc : Option Nat} {f : Nat → Int32} {v : Int32} (hT : w T = some (tx_o TC (nI len) sk (nI q0.1) (nI q0.2) nu)) (hC : w TC = some (.inl (g.2.1 1, 160, .inl f))) (hl : len ≤ 160) (hab : q0.1 ≤ q0.2) (hbl : q0.2 ≤ len) (hL : w L = some (li_o num oc na k0)) : hw_Mi l g ym_Li_takesClause mw_Li_takesClause (hw_R 9 2 10) [.ref L, .ref T, .int v] w (fun r w' => tx_S w' T TC len sk ∧ (∀ y, w y ≠ none → y ≠ T → y ≠ L → w' y = w y) ∧ ∃ o : Option Nat, w' L = some (li_o num o na k0) ∧ ((r = 0 ∧ o = none) ∨ ∃ c : Nat, r = 1 ∧ o = some c ∧ cl_s g w' c)) := by
  refine hw_enteri (r := 0) rfl rfl (by simp [Value.category]) (Nat.le_of_ble_eq_true rfl) ?_
  intro p e s m args below meth c A X hr hlk hnm
  refine sg_Li_takesClause_0 X (fun _ _ _ _ _ _ h => h) (hw_rtz X hr hlk) ?_
  unfold vc_Li_takesClause_0
  have nTL : T ≠ L := by rintro rfl; rw [hT] at hL; cases hL
  refine ⟨_, ⟨_, hL, rfl⟩, hw_cq_n (by decide) (by decide) (ct_Cl_clauseIn (num := num) (v := v) l g w hT hC hl hab hbl) (Nat.le_of_ble_eq_true rfl) (Nat.le_of_ble_eq_true rfl) ?_⟩
  rintro o w2 ⟨q, nu2, h1, h2, aT, kp, hor⟩
  have aL : w2 L = some (li_o num oc na k0) := by rw [kp L (hw_sn hL) nTL.symm]; exact hL
  have kp2 : ∀ x y, w y ≠ none → y ≠ T → y ≠ L → (va_up w2 L x) y = w y := fun x y hy yT yL => by rw [va_up_ne _ _ yL]; exact kp y hy yT
  have sT : ∀ x, tx_S (va_up w2 L x) T TC len sk := fun x => ⟨q, nu2, h1, h2, by rw [va_up_ne _ _ nTL]; exact aT⟩
  refine ⟨_, ⟨_, aL, Nat.le_of_ble_eq_true rfl, rfl⟩, o, ⟨_, (va_up_self _ _ _), rfl⟩, fun ho => ?_, fun q8 ho => ?_⟩
  · subst ho
    exact ⟨⟨Nat.le_of_ble_eq_true rfl, Nat.le_of_ble_eq_true rfl⟩, Or.inl rfl, sT _, kp2 _, none, (va_up_self _ _ _), Or.inl ⟨rfl, rfl⟩⟩
  · rcases hor with ⟨z, -⟩ | ⟨kc, ls, z, hn, hok, -⟩
    · rw [z] at ho; cases ho
    · rw [z] at ho; cases ho
      subst z
      refine ⟨⟨Nat.le_of_ble_eq_true rfl, Nat.le_of_ble_eq_true rfl⟩, Or.inr rfl, sT _, kp2 _, some q8, (va_up_self _ _ _), Or.inr ⟨q8, rfl, rfl, num, ls, cl_ok_k (S := fun y => y = L) hok (fun y _ hy => va_up_ne _ _ hy) (fun y e he hy => ?_)⟩⟩
      subst hy; rw [aL] at he; cases he; exact (by decide : (6 : Nat) ≠ 5)
set_option maxHeartbeats 4000000 in
set_option maxRecDepth 100000 in
theorem ct_Li_takesNamed (l : Launch) (g : hw_G) (w : hw_H) {T TC len L na k0 : Nat} {q0 : Nat × Nat} {sk nu num : Int32} {oc : Option Nat} {f : Nat → Int32} {lo : Int32} {fn : Nat → Int32} (hT : w T = some (tx_o TC (nI len) sk (nI q0.1) (nI q0.2) nu)) (hC : w TC = some (.inl (g.2.1 1, 160, .inl f))) (hl : len ≤ 160) (hab : q0.1 ≤ q0.2) (hbl : q0.2 ≤ len) (hL : w L = some (li_o num oc na k0)) (hN : w na = some (ar_i g 12 fn)) (hk0 : k0 ≤ 12) : hw_Mi l g ym_Li_takesNamed mw_Li_takesNamed (hw_R 8 0 0) [.ref L, .ref T, .int lo] w (fun r w' => tx_S w' T TC len sk ∧ (∀ y, w y ≠ none → y ≠ T → y ≠ L → y ≠ na → w' y = w y) ∧ ∃ (k' : Nat) (fn' : Nat → Int32), k' ≤ 12 ∧ w' L = some (li_o num oc na k') ∧ w' na = some (ar_i g 12 fn')) := by
  refine hw_enteri (r := 2) rfl rfl (by simp [Value.category]) (Nat.le_of_ble_eq_true rfl) ?_
  intro p e s m args below meth c A X hr hlk hnm
  refine sg_Li_takesNamed_0 X (fun _ _ _ _ _ _ h => h) (hw_rtz X hr hlk) ?_
  unfold vc_Li_takesNamed_0
  have nTL : T ≠ L := by rintro rfl; rw [hT] at hL; cases hL
  have nTN : T ≠ na := by rintro rfl; rw [hT] at hN; cases hN
  have nLN : L ≠ na := by rintro rfl; rw [hL] at hN; cases hN
  have nTTC : T ≠ TC := by rintro rfl; rw [hT] at hC; cases hC
  have nCL : TC ≠ L := by rintro rfl; rw [hC] at hL; cases hL
  have nCN : TC ≠ na := hw_an hC hN (by decide)
  have L1 : ∀ (d i : Nat) (q : Nat × Nat) (k1 : Nat) (fn1 : Nat → Int32) (nu1 : Int32) (w3 : hw_H), i + d = 13 → q.1 ≤ q.2 → q.2 ≤ len → w3 T = some (tx_o TC (nI len) sk (nI q.1) (nI q.2) nu1) → k1 ≤ 12 → w3 L = some (li_o num oc na k1) → w3 na = some (ar_i g 12 fn1) → (∀ y, w y ≠ none → y ≠ T → y ≠ L → y ≠ na → w3 y = w y) → hw_Ji p l e (hw_R 8 0 0) s m args below meth c 5 g A (fun r w' => tx_S w' T TC len sk ∧ (∀ y, w y ≠ none → y ≠ T → y ≠ L → y ≠ na → w' y = w y) ∧ ∃ (k' : Nat) (fn' : Nat → Int32), k' ≤ 12 ∧ w' L = some (li_o num oc na k') ∧ w' na = some (ar_i g 12 fn')) 0 0 2 [some (.ref L), some (.ref T), some (.int lo), some (.int (nI i)), none] [] w3 := by
    intro d
    induction d with
    | zero =>
      intro i q k1 fn1 nu1 w3 hi h1 h2 aT hk1 aL aN kp
      have hi2 : i = 13 := by omega
      subst hi2
      refine sg_Li_takesNamed_2 X (fun _ _ _ _ _ _ h => h) (hw_rtz X hr hlk) ?_
      unfold vc_Li_takesNamed_2
      exact ⟨fun _ => ⟨hw_00, Or.inl rfl, ⟨q, nu1, h1, h2, aT⟩, kp, k1, fn1, hk1, aL, aN⟩, fun h => absurd (by decide) h⟩
    | succ d ih =>
      intro i q k1 fn1 nu1 w3 hi h1 h2 aT hk1 aL aN kp
      have aC : w3 TC = some (.inl (g.2.1 1, 160, .inl f)) := by rw [kp TC (hw_sn hC) nTTC.symm nCL nCN]; exact hC
      refine sg_Li_takesNamed_2 X (fun _ _ _ _ _ _ h => h) (hw_rtz X hr hlk) ?_
      unfold vc_Li_takesNamed_2
      refine ⟨fun _ => ⟨hw_00, Or.inl rfl, ⟨q, nu1, h1, h2, aT⟩, kp, k1, fn1, hk1, aL, aN⟩, fun _ => ⟨hw_o_of aT rfl rfl, hw_ci_0 (by decide) (by decide) (ct_Te_isNumber (lo := lo) (hi := 999) l g w3 aT aC hl h1 h2) (Nat.zero_le _) (Nat.zero_le _) ?_⟩⟩
      rintro r w4 ⟨hno, hyes⟩
      cases hn : tx_num f q.1 q.2 with
      | none =>
        obtain ⟨rfl, rfl⟩ := hno hn
        exact ⟨fun _ => ⟨hw_00, Or.inl rfl, ⟨q, nu1, h1, h2, aT⟩, kp, k1, fn1, hk1, aL, aN⟩, fun h => absurd rfl h⟩
      | some x =>
        obtain ⟨rfl, rfl⟩ := hyes x hn
        have bL : ∀ e, (va_up w3 T e) L = some (li_o num oc na k1) := fun e => by rw [va_up_ne _ _ nTL.symm]; exact aL
        have bN : ∀ e, (va_up w3 T e) na = some (ar_i g 12 fn1) := fun e => by rw [va_up_ne _ _ nTN.symm]; exact aN
        have bC : ∀ e, (va_up w3 T e) TC = some (.inl (g.2.1 1, 160, .inl f)) := fun e => by rw [va_up_ne _ _ nTTC.symm]; exact aC
        have bk : ∀ e y, w y ≠ none → y ≠ T → y ≠ L → y ≠ na → (va_up w3 T e) y = w y := fun e y hy yT yL yN => by rw [va_up_ne _ _ yT]; exact kp y hy yT yL yN
        have ab := tx_adv_b (f := f) (sk := sk) h2
        refine ⟨fun _ => ⟨hw_00, Or.inl rfl, ⟨q, x, h1, h2, (va_up_self _ _ _)⟩, bk _, k1, fn1, hk1, bL _, bN _⟩, fun _ => ⟨_, ⟨_, (va_up_self _ _ _), rfl⟩, fun hx => ?_, fun hx => ⟨_, ⟨_, bL _, rfl⟩, fun h12 => ?_, fun h12 => ⟨hw_00, Or.inl rfl, ⟨q, x, h1, h2, (va_up_self _ _ _)⟩, bk _, k1, fn1, hk1, bL _, bN _⟩⟩⟩⟩
        · refine ⟨hw_o_of (va_up_self _ _ _) rfl rfl, hw_cv_0 (by decide) (by decide) (ct_Te_advance (TC := TC) (len := len) (pe := q.2) (sk := sk) (st := nI q.1) (nu := x) (f := f) l g _ (va_up_self _ _ _) (bC _) hl h2) (Nat.zero_le _) (Nat.zero_le _) ?_⟩
          rintro w5 rfl
          rw [bx_uu]
          exact ⟨fun z => absurd hx z, fun _ => ⟨hw_00, Or.inr rfl, ⟨_, x, ab.2.1, ab.2.2, (va_up_self _ _ _)⟩, bk _, k1, fn1, hk1, bL _, bN _⟩⟩
        · have h3 : k1 < 12 := (nI_ltI (b := 12) (by omega) (by omega)).mp h12
          refine ⟨hw_o_of (va_up_self _ _ _) rfl rfl, hw_cv_0 (by decide) (by decide) (ct_Te_advance (TC := TC) (len := len) (pe := q.2) (sk := sk) (st := nI q.1) (nu := x) (f := f) l g _ (va_up_self _ _ _) (bC _) hl h2) (Nat.zero_le _) (Nat.zero_le _) ?_⟩
          rintro w5 rfl
          rw [bx_uu]
          have cL : ∀ e e2, (va_up (va_up w3 T e) na e2) L = some (li_o num oc na k1) := fun e e2 => by rw [va_up_ne _ _ nLN]; exact bL _
          refine ⟨fun _ => ⟨_, ⟨_, bL _, rfl⟩, _, ⟨_, bL _, rfl⟩, _, ⟨_, _, bN _, vp_in_nI h3 (by omega), rfl⟩, _, ⟨_, cL _ _, rfl⟩, _, ⟨_, cL _ _, Nat.le_of_ble_eq_true rfl, rfl⟩, ?_⟩, fun z => absurd z hx⟩
          rw [nI_1]
          refine ih (i + 1) (tx_adv f len sk q.2) (k1 + 1) (upd fn1 (nI k1).toNatClampNeg x) x _ (by omega) ab.2.1 ab.2.2 ?_ h3 ?_ ?_ ?_
          · rw [va_up_ne _ _ nTL, va_up_ne _ _ nTN]; exact (va_up_self _ _ _)
          · rw [va_up_self]; show some (Sum.inr (6, [Value.int num, va_rf oc, Value.ref na, Value.int (nI k1 + 1)])) = _; rw [nI_1]
          · rw [va_up_ne _ _ nLN.symm]; exact (va_up_self _ _ _)
          · intro y hy yT yL yN
            rw [va_up_ne _ _ yL, va_up_ne _ _ yN]
            exact bk _ y hy yT yL yN
  exact L1 13 0 q0 k0 fn nu w rfl hab hbl hT hk0 hL hN (fun y _ _ _ _ => rfl)
set_option maxHeartbeats 4000000 in
set_option maxRecDepth 100000 in
theorem ct_Li_lineIn (l : Launch) (g : hw_G) (w : hw_H) {T TC len : Nat} {sk st en nu v : Int32} {f : Nat → Int32} (hT : w T = some (tx_o TC (nI len) sk st en nu)) (hC : w TC = some (.inl (g.2.1 1, 160, .inl f))) (hl : len ≤ 160) : hw_Mq l g ym_Li_lineIn mw_Li_lineIn (hw_R 10 4 26) [.ref T, .int v] w (fun o w' => tx_S w' T TC len 0 ∧ (∀ y, w y ≠ none → y ≠ T → w' y = w y) ∧ ∀ L : Nat, o = some L → ∃ (na k' : Nat) (num : Int32) (oc : Option Nat) (fn : Nat → Int32), k' ≤ 12 ∧ w' L = some (li_o num oc na k') ∧ w' na = some (ar_i g 12 fn) ∧ ∀ c : Nat, oc = some c → cl_s g w' c) := by
  refine hw_enterq (r := 2) rfl rfl (by simp [Value.category]) (Nat.le_of_ble_eq_true rfl) ?_
  intro p e s m args below meth c A X hr hlk hnm
  refine sg_Li_lineIn_0 X (fun _ _ _ _ _ _ h => h) (hw_rtq X hr hlk) ?_
  unfold vc_Li_lineIn_0
  have nTTC : T ≠ TC := by rintro rfl; rw [hT] at hC; cases hC
  have no : ∀ (k n : Nat) (wx : hw_H), k ≤ 4 → n ≤ 26 → tx_S wx T TC len 0 → (∀ y, w y ≠ none → y ≠ T → wx y = w y) → ((k ≤ 4 ∧ n ≤ 26) ∧ (fun o w' => tx_S w' T TC len 0 ∧ (∀ y, w y ≠ none → y ≠ T → w' y = w y) ∧ ∀ L : Nat, o = some L → ∃ (na k' : Nat) (num : Int32) (oc : Option Nat) (fn : Nat → Int32), k' ≤ 12 ∧ w' L = some (li_o num oc na k') ∧ w' na = some (ar_i g 12 fn) ∧ ∀ c : Nat, oc = some c → cl_s g w' c) none wx) := fun k n wx hk hn aT kp => ⟨⟨hk, hn⟩, aT, kp, fun L z => (by cases z)⟩
  have hC1 : ∀ x, (va_up w T x) TC = some (.inl (g.2.1 1, 160, .inl f)) := fun x => by rw [va_up_ne _ _ nTTC.symm]; exact hC
  have kp1 : ∀ x y, w y ≠ none → y ≠ T → (va_up w T x) y = w y := fun x y _ hy => va_up_ne _ _ hy
  refine ⟨hw_o_of hT rfl rfl, hw_cv_0 (by decide) (by decide) (ct_Te_rewind l g w hT hC hl (Or.inl rfl)) (Nat.le_of_ble_eq_true rfl) (Nat.le_of_ble_eq_true rfl) ?_⟩
  rintro w1 rfl
  have b1 := tx_adv_b (f := f) (sk := 0) (Nat.zero_le len)
  generalize tx_adv f len 0 0 = q1 at b1 ⊢
  refine ⟨hw_o_of (va_up_self _ _ _) rfl rfl, hw_ci_0 (by decide) (by decide) (ct_Te_passesNumber (TC := TC) (len := len) (a := q1.1) (b := q1.2) (sk := 0) (nu := nu) (f := f) (lo := 1) (hi := 999) l g _ (va_up_self _ _ _) (hC1 _) hl b1.2.1 b1.2.2) (Nat.le_of_ble_eq_true rfl) (Nat.le_of_ble_eq_true rfl) ?_⟩
  rintro r w4 ⟨hno, hyes⟩
  cases hn : tx_num f q1.1 q1.2 with
  | none =>
    obtain ⟨rfl, rfl⟩ := hno hn
    exact ⟨fun h => absurd rfl h, fun _ => no _ _ _ (Nat.le_of_ble_eq_true rfl) (Nat.le_of_ble_eq_true rfl) ⟨q1, nu, b1.2.1, b1.2.2, (va_up_self _ _ _)⟩ (kp1 _)⟩
  | some v1 =>
  obtain ⟨rfl, e4⟩ := hyes v1 hn
  cases hv : tx_in v1 1 999 with
  | false =>
    rw [hv, if_neg (by decide)] at e4
    subst e4
    rw [bx_uu]
    exact ⟨fun h => absurd rfl h, fun _ => no _ _ _ (Nat.le_of_ble_eq_true rfl) (Nat.le_of_ble_eq_true rfl) ⟨q1, v1, b1.2.1, b1.2.2, (va_up_self _ _ _)⟩ (kp1 _)⟩
  | true =>
  rw [hv, if_pos rfl] at e4
  rw [bx_uu] at e4
  subst e4
  have b4 := tx_adv_b (f := f) (sk := 0) b1.2.2
  generalize tx_adv f len 0 q1.2 = q4 at b4 ⊢
  refine ⟨fun _ => ⟨⟨Nat.le_of_ble_eq_true rfl, Nat.le_of_ble_eq_true rfl⟩, fun L w5 hqL e5 => ?_⟩, fun h => absurd h (by decide)⟩
  subst e5
  have nTL : T ≠ L := hw_nn (va_up_self _ _ _) hqL
  have nCL : TC ≠ L := hw_nn (hC1 _) hqL
  have hwL : w L = none := by rw [va_up_ne _ _ nTL.symm] at hqL; exact hqL
  refine ⟨_, ⟨_, hw_un (va_up_self _ _ _) hqL _, rfl⟩, hw_cv_n (by decide) (by decide) (ct_Li_init l g _ (va_up_self _ _ _)) (Nat.le_of_ble_eq_true rfl) (Nat.le_of_ble_eq_true rfl) ?_⟩
  rintro w6 ⟨na, hqa, rfl⟩
  have nLa : L ≠ na := hw_nn (va_up_self _ _ _) hqa
  have nTa : T ≠ na := hw_nn (hw_un (va_up_self _ _ _) hqL _) hqa
  have nCa : TC ≠ na := hw_nn (hw_un (hC1 _) hqL _) hqa
  have hwa : w na = none := by rw [va_up_ne _ _ nLa.symm, va_up_ne _ _ nTa.symm] at hqa; exact hqa
  generalize hw7 : va_up (va_up (va_up (va_up w T (some (tx_o TC (nI len) 0 (nI q4.1) (nI q4.2) v1))) L (some (.inr (6, [.int 0, .null, .null, .int 0])))) na (some (ai_0 g 0 12))) L (some (li_o v1 none na 0)) = w7
  have cT : w7 T = some (tx_o TC (nI len) 0 (nI q4.1) (nI q4.2) v1) := by rw [← hw7, va_up_ne _ _ nTL, va_up_ne _ _ nTa, va_up_ne _ _ nTL, va_up_self]
  have cC : w7 TC = some (.inl (g.2.1 1, 160, .inl f)) := by rw [← hw7, va_up_ne _ _ nCL, va_up_ne _ _ nCa, va_up_ne _ _ nCL]; exact hC1 _
  have cL : w7 L = some (li_o v1 none na 0) := by rw [← hw7, va_up_self]
  have ca : w7 na = some (ar_i g 12 (fun _ => 0)) := by rw [← hw7, va_up_ne _ _ nLa.symm, va_up_self]
  have kp7 : ∀ y, w y ≠ none → y ≠ T → w7 y = w y := fun y hy yT => by
    have yF : y ≠ L := by rintro rfl; exact hy hwL
    have ya : y ≠ na := by rintro rfl; exact hy hwa
    rw [← hw7, va_up_ne _ _ yF, va_up_ne _ _ ya, va_up_ne _ _ yF, va_up_ne _ _ yT]
  clear hw7
  have kpz : ∀ w8 : hw_H, (∀ y, w7 y ≠ none → y ≠ T → y ≠ L → y ≠ na → w8 y = w7 y) → ∀ y, w y ≠ none → y ≠ T → w8 y = w y := fun w8 k8 y hy yT => by
    have yF : y ≠ L := by rintro rfl; exact hy hwL
    have ya : y ≠ na := by rintro rfl; exact hy hwa
    have e7 := kp7 y hy yT
    rw [k8 y (by rw [e7]; exact hy) yT yF ya]; exact e7
  have fin : ∀ (k n : Nat) (w8 : hw_H) (k8 : Nat) (num8 : Int32) (oc8 : Option Nat) (fn8 : Nat → Int32), k ≤ 4 → n ≤ 26 → tx_S w8 T TC len 0 → (∀ y, w7 y ≠ none → y ≠ T → y ≠ L → y ≠ na → w8 y = w7 y) → k8 ≤ 12 → w8 L = some (li_o num8 oc8 na k8) → w8 na = some (ar_i g 12 fn8) → (∀ c : Nat, oc8 = some c → cl_s g w8 c) → ((k ≤ 4 ∧ n ≤ 26) ∧ (fun o w' => tx_S w' T TC len 0 ∧ (∀ y, w y ≠ none → y ≠ T → w' y = w y) ∧ ∀ L : Nat, o = some L → ∃ (na k' : Nat) (num : Int32) (oc : Option Nat) (fn : Nat → Int32), k' ≤ 12 ∧ w' L = some (li_o num oc na k') ∧ w' na = some (ar_i g 12 fn) ∧ ∀ c : Nat, oc = some c → cl_s g w' c) (some L) w8) := fun k n w8 k8 num8 oc8 fn8 hk hn aT kp hk8 aL aN hc => ⟨⟨hk, hn⟩, aT, kpz w8 kp, fun L' z => (by cases z; exact ⟨na, k8, num8, oc8, fn8, hk8, aL, aN, hc⟩)⟩
  refine ⟨hw_o_of cT rfl rfl, hw_ci_0 (by decide) (by decide) (ct_Te_passesWord (i := 3) l g w7 cT cC hl b4.2.1 b4.2.2 (by decide)) (Nat.le_of_ble_eq_true rfl) (Nat.le_of_ble_eq_true rfl) ?_⟩
  rintro r w8 ⟨rfl, e8⟩
  cases hd : tx_is f q4.1 q4.2 3 with
  | false =>
    rw [hd, if_neg (by decide)] at e8
    subst e8
    refine ⟨fun _ => ⟨hw_o_of cL rfl rfl, hw_ci_n (by decide) (by decide) (ct_Li_takesClause (v := v) l g w8 cT cC hl b4.2.1 b4.2.2 cL) (Nat.le_of_ble_eq_true rfl) (Nat.le_of_ble_eq_true rfl) ?_⟩, fun z => absurd rfl z⟩
    rintro r w9 ⟨aT9, kp9, o9, aL9, hor⟩
    have kp9' : ∀ y, w8 y ≠ none → y ≠ T → y ≠ L → y ≠ na → w9 y = w8 y := fun y hy yT yL _ => kp9 y hy yT yL
    refine ⟨fun _ => no _ _ _ (Nat.le_of_ble_eq_true rfl) (Nat.le_of_ble_eq_true rfl) aT9 (kpz w9 kp9'), fun hr9 => ⟨hw_o_of aL9 rfl rfl, ?_⟩⟩
    obtain ⟨q9, nu9, h91, h92, cT9⟩ := aT9
    have cC9 : w9 TC = some (.inl (g.2.1 1, 160, .inl f)) := by rw [kp9 TC (hw_sn cC) nTTC.symm nCL]; exact cC
    have ca9 : w9 na = some (ar_i g 12 (fun _ => 0)) := by rw [kp9 na (hw_sn ca) nTa.symm nLa.symm]; exact ca
    refine hw_ci_0 (by decide) (by decide) (ct_Li_takesNamed (lo := -999) l g w9 cT9 cC9 hl h91 h92 aL9 ca9 (Nat.zero_le _)) (Nat.le_of_ble_eq_true rfl) (Nat.le_of_ble_eq_true rfl) ?_
    rintro r w10 ⟨aT10, kp10, k10, fn10, hk10, aL10, aN10⟩
    have kpA : ∀ y, w8 y ≠ none → y ≠ T → y ≠ L → y ≠ na → w10 y = w8 y := fun y hy yT yL ya => by
      have e9 := kp9' y hy yT yL ya
      rw [kp10 y (by rw [e9]; exact hy) yT yL ya]; exact e9
    have aT10' := aT10
    obtain ⟨q10, nu10, h101, h102, cT10⟩ := aT10
    refine ⟨fun _ => no _ _ _ (Nat.le_of_ble_eq_true rfl) (Nat.le_of_ble_eq_true rfl) aT10' (kpz w10 kpA), fun _ => ⟨hw_o_of cT10 rfl rfl, hw_ci_0 (by decide) (by decide) (ct_Te_isAtEnd l g w10 cT10) (Nat.le_of_ble_eq_true rfl) (Nat.le_of_ble_eq_true rfl) ?_⟩⟩
    rintro r w11 ⟨rfl, rfl⟩
    refine ⟨fun _ => no _ _ _ (Nat.le_of_ble_eq_true rfl) (Nat.le_of_ble_eq_true rfl) aT10' (kpz _ kpA), fun _ => fin _ _ _ k10 v1 o9 fn10 (Nat.le_of_ble_eq_true rfl) (Nat.le_of_ble_eq_true rfl) aT10' kpA hk10 aL10 aN10 ?_⟩
    intro kc hkc
    rcases hor with ⟨-, z⟩ | ⟨kc', -, z, hs⟩
    · rw [z] at hkc; cases hkc
    · rw [z] at hkc; cases hkc
      refine cl_s_k (S := fun y => y = T ∨ y = L ∨ y = na) hs (fun y hy hn => kp10 y hy (fun h => hn (Or.inl h)) (fun h => hn (Or.inr (Or.inl h))) (fun h => hn (Or.inr (Or.inr h)))) (fun y e he hy => ?_)
      rcases hy with rfl | rfl | rfl
      · rw [cT9] at he; cases he; exact (by decide : (0 : Nat) ≠ 5)
      · rw [aL9] at he; cases he; exact (by decide : (6 : Nat) ≠ 5)
      · rw [ca9] at he; cases he; exact (by decide : (12 : Nat) ≠ 6)
  | true =>
    rw [hd, if_pos rfl] at e8
    subst e8
    have b8 := tx_adv_b (f := f) (sk := 0) b4.2.2
    have dL : ∀ x, (va_up w7 T x) L = some (li_o v1 none na 0) := fun x => by rw [va_up_ne _ _ nTL.symm]; exact cL
    have da : ∀ x, (va_up w7 T x) na = some (ar_i g 12 (fun _ => 0)) := fun x => by rw [va_up_ne _ _ nTa.symm]; exact ca
    have dC : ∀ x, (va_up w7 T x) TC = some (.inl (g.2.1 1, 160, .inl f)) := fun x => by rw [va_up_ne _ _ nTTC.symm]; exact cC
    refine ⟨fun z => absurd z (by decide), fun _ => ⟨hw_o_of (dL _) rfl rfl, hw_ci_0 (by decide) (by decide) (ct_Li_takesNamed (T := T) (TC := TC) (len := len) (q0 := tx_adv f len 0 q4.2) (sk := 0) (nu := v1) (f := f) (lo := 0) l g _ (va_up_self _ _ _) (dC _) hl b8.2.1 b8.2.2 (dL _) (da _) (Nat.zero_le _)) (Nat.le_of_ble_eq_true rfl) (Nat.le_of_ble_eq_true rfl) ?_⟩⟩
    rintro r w10 ⟨aT10, kp10, k10, fn10, hk10, aL10, aN10⟩
    have kpA : ∀ y, w7 y ≠ none → y ≠ T → y ≠ L → y ≠ na → w10 y = w7 y := fun y hy yT yL ya => by
      rw [kp10 y (by rw [va_up_ne _ _ yT]; exact hy) yT yL ya, va_up_ne _ _ yT]
    have aT10' := aT10
    obtain ⟨q10, nu10, h101, h102, cT10⟩ := aT10
    refine ⟨fun _ => no _ _ _ (Nat.le_of_ble_eq_true rfl) (Nat.le_of_ble_eq_true rfl) aT10' (kpz w10 kpA), fun _ => ⟨hw_o_of cT10 rfl rfl, hw_ci_0 (by decide) (by decide) (ct_Te_isAtEnd l g w10 cT10) (Nat.le_of_ble_eq_true rfl) (Nat.le_of_ble_eq_true rfl) ?_⟩⟩
    rintro r w11 ⟨rfl, rfl⟩
    exact ⟨fun _ => no _ _ _ (Nat.le_of_ble_eq_true rfl) (Nat.le_of_ble_eq_true rfl) aT10' (kpz _ kpA), fun _ => fin _ _ _ k10 v1 none fn10 (Nat.le_of_ble_eq_true rfl) (Nat.le_of_ble_eq_true rfl) aT10' kpA hk10 aL10 aN10 (fun kc hkc => (by cases hkc))⟩
