def cl_bit (x : Int32) : Int32 := if x = 0 then 0 else if x ≤ 0 then (1 : Int32) <<< (((9 : Int32) - x) &&& 31) else (1 : Int32) <<< ((x - 1) &&& 31)
def cl_mask : List Int32 → Int32
  | [] => 0
  | x :: l => cl_mask l ||| cl_bit x
/-- the clause at c: its number, its literals (the last told first) -/
abbrev cl_o (num : Int32) (la : Nat) (ls : List Int32) : va_E := .inr (5, [.int num, .ref la, .int (nI ls.length), .int (cl_mask ls)])
def cl_ar (f : Nat → Int32) (ls : List Int32) : Prop := ls.length ≤ 6 ∧ ∀ i, i < ls.length → f i = ls.reverse.getD i 0
def cl_ok (g : hw_G) (w : hw_H) (c : Nat) (num : Int32) (ls : List Int32) : Prop := ∃ (la : Nat) (f : Nat → Int32), w c = some (cl_o num la ls) ∧ w la = some (.inl (g.2.1 0, 6, .inl f)) ∧ cl_ar f ls
theorem cl_ar_0 {f : Nat → Int32} : cl_ar f [] := ⟨Nat.zero_le _, fun i h => absurd h (Nat.not_lt_zero _)⟩
theorem cl_ar_s {f : Nat → Int32} {ls : List Int32} {x : Int32} (h : cl_ar f ls) (hl : ls.length < 6) : cl_ar (upd f ls.length x) (x :: ls) := by
  refine ⟨hl, fun i hi => ?_⟩
  rw [List.length_cons] at hi
  rw [List.reverse_cons, List.getD_eq_getElem?_getD]
  by_cases h2 : i = ls.length
  · subst h2
    rw [pk_us, List.getElem?_append_right (by simp)]
    simp
  · rw [pk_un h2, List.getElem?_append_left (by simp; omega), h.2 i (by omega), List.getD_eq_getElem?_getD]
set_option maxHeartbeats 4000000 in
set_option maxRecDepth 100000 in
theorem ct_Co_bit (l : Launch) (g : hw_G) (w : hw_H) {x : Int32}  : hw_Mi l g ym_Co_bit mw_Co_bit (hw_R 1 0 0) [.int x] w (fun r w' => r = cl_bit x ∧ w' = w) := by
  refine hw_enteri (r := 0) rfl rfl (by simp [Value.category]) (Nat.le_of_ble_eq_true rfl) ?_
  intro p e s m args below meth c A X hr hlk hnm
  refine sg_Co_bit_0 X (fun _ _ _ _ _ _ h => h) (hw_rti X hr hlk) ?_
  unfold vc_Co_bit_0
  exact ⟨fun h => ⟨fun h2 => ⟨hw_00, by simp [cl_bit, h, h2], rfl⟩, fun h2 => ⟨hw_00, by simp [cl_bit, h, h2], rfl⟩⟩, fun h => ⟨hw_00, by simp [cl_bit, h], rfl⟩⟩
set_option maxHeartbeats 4000000 in
set_option maxRecDepth 100000 in
theorem ct_Cl_init (l : Launch) (g : hw_G) (w : hw_H) {K0 : Nat} {x : Int32} (hK : w K0 = some (.inr (5, [.int 0, .null, .int 0, .int 0]))) : hw_Mv l g ym_Cl_init mw_Cl_init (hw_R 1 1 6) [.ref K0, .int x] w (fun w' => ∃ q : Nat, w q = none ∧ w' = va_up (va_up w q (some (ai_0 g 0 6))) K0 (some (cl_o x q []))) := by
  refine hw_enterv (r := 0) rfl rfl (by simp [Value.category]) (Nat.le_of_ble_eq_true rfl) ?_
  intro p e s m args below meth c A X hr hlk hnm
  refine sg_Cl_init_0 X hnm ⟨Nat.le_of_ble_eq_true rfl, Nat.le_of_ble_eq_true rfl⟩ (fun _ _ _ _ _ _ h => h) (hw_rtv X hr hlk) ?_
  unfold vc_Cl_init_0
  refine ⟨⟨Nat.le_of_ble_eq_true rfl, Nat.le_of_ble_eq_true rfl⟩, fun q1 w2 hq e2 => ?_⟩
  subst e2
  refine ⟨_, ⟨_, hw_un hK hq _, Nat.le_of_ble_eq_true rfl, rfl⟩, _, ⟨_, (va_up_self _ _ _), Nat.le_of_ble_eq_true rfl, rfl⟩, ⟨Nat.le_of_ble_eq_true rfl, Nat.le_of_ble_eq_true rfl⟩, q1, hq, ?_⟩
  exact bx_uu _ _ _ _
set_option maxHeartbeats 4000000 in
set_option maxRecDepth 100000 in
theorem ct_Cl_accept (l : Launch) (g : hw_G) (w : hw_H) {K0 la : Nat} {num x : Int32} {ls : List Int32} {f : Nat → Int32} (hK : w K0 = some (cl_o num la ls)) (hA : w la = some (.inl (g.2.1 0, 6, .inl f))) (hf : cl_ar f ls) : hw_Mi l g ym_Cl_accept mw_Cl_accept (hw_R 2 0 0) [.ref K0, .int x] w (fun r w' => (¬ (cl_mask ls &&& cl_bit x) = 0 → r = 1 ∧ w' = w) ∧ ((cl_mask ls &&& cl_bit x) = 0 → ls.length < 6 → r = 1 ∧ w' = va_up (va_up w la (some (.inl (g.2.1 0, 6, .inl (upd f ls.length x))))) K0 (some (cl_o num la (x :: ls)))) ∧ ((cl_mask ls &&& cl_bit x) = 0 → ¬ ls.length < 6 → r = 0 ∧ w' = w)) := by
  refine hw_enteri (r := 0) rfl rfl (by simp [Value.category]) (Nat.le_of_ble_eq_true rfl) ?_
  intro p e s m args below meth c A X hr hlk hnm
  refine sg_Cl_accept_0 X (fun _ _ _ _ _ _ h => h) (hw_rtz X hr hlk) ?_
  unfold vc_Cl_accept_0
  have hne : K0 ≠ la := by rintro rfl; rw [hK] at hA; cases hA
  have h6 := hf.1
  refine ⟨_, ⟨_, hK, rfl⟩, hw_ci_0 (by decide) (by decide) (ct_Co_bit l g w) (Nat.zero_le _) (Nat.zero_le _) ?_⟩
  rintro r w1 ⟨rfl, rfl⟩
  refine ⟨fun h => ⟨_, ⟨_, hK, rfl⟩, fun h2 => ?_, fun h2 => ?_⟩, fun h => ⟨hw_00, Or.inr rfl, fun _ => ⟨rfl, rfl⟩, fun z => absurd z h, fun z => absurd z h⟩⟩
  · have h3 : ls.length < 6 := (nI_ltI (b := 6) (by omega) (by omega)).mp h2
    have hK1 : ∀ x, (va_up w1 la x) K0 = some (cl_o num la ls) := fun x => by rw [va_up_ne _ _ hne]; exact hK
    refine ⟨_, ⟨_, hK, rfl⟩, _, ⟨_, hK, rfl⟩, _, ⟨_, _, hA, vp_in_nI h3 (by omega), rfl⟩, _, ⟨_, hK1 _, rfl⟩, _, ⟨_, hK1 _, Nat.le_of_ble_eq_true rfl, rfl⟩, _, ⟨_, (va_up_self _ _ _), rfl⟩, hw_ci_0 (by decide) (by decide) (ct_Co_bit l g _) (Nat.zero_le _) (Nat.zero_le _) ?_⟩
    rintro r w2 ⟨rfl, rfl⟩
    refine ⟨_, ⟨_, (va_up_self _ _ _), Nat.le_of_ble_eq_true rfl, rfl⟩, hw_00, Or.inr rfl, fun z => absurd h z, fun _ _ => ⟨rfl, ?_⟩, fun _ z => absurd h3 z⟩
    rw [bx_uu, nI_clamp (by omega), nI_1]
    rfl
  · have h3 : ¬ ls.length < 6 := fun z => h2 (nI_lt (b := 6) z (by omega))
    exact ⟨hw_00, Or.inl rfl, fun z => absurd h z, fun _ z => absurd z h3, fun _ _ => ⟨rfl, rfl⟩⟩
def cl_in (f : Nat → Int32) (len : Nat) (sk v : Int32) : Nat → Nat × Nat → List Int32 → Option (List Int32) × (Nat × Nat)
  | 0, q, _ => (none, q)
  | k + 1, q, ls => match tx_num f q.1 q.2 with
    | none => (none, q)
    | some x => if tx_in x (-v) v = true then (if x = 0 then (some ls, tx_adv f len sk q.2) else if ¬ (cl_mask ls &&& cl_bit x) = 0 then cl_in f len sk v k (tx_adv f len sk q.2) ls else if ls.length < 6 then cl_in f len sk v k (tx_adv f len sk q.2) (x :: ls) else (none, q)) else (none, q)
set_option maxHeartbeats 4000000 in
set_option maxRecDepth 100000 in
theorem ct_Cl_clauseIn (l : Launch) (g : hw_G) (w : hw_H) {T TC len : Nat} {q0 : Nat × Nat} {sk nu num v : Int32} {f : Nat → Int32} (hT : w T = some (tx_o TC (nI len) sk (nI q0.1) (nI q0.2) nu)) (hC : w TC = some (.inl (g.2.1 1, 160, .inl f))) (hl : len ≤ 160) (hab : q0.1 ≤ q0.2) (hbl : q0.2 ≤ len) : hw_Mq l g ym_Cl_clauseIn mw_Cl_clauseIn (hw_R 8 2 10) [.ref T, .int num, .int v] w (fun o w' => ∃ (q : Nat × Nat) (nu' : Int32), q.1 ≤ q.2 ∧ q.2 ≤ len ∧ w' T = some (tx_o TC (nI len) sk (nI q.1) (nI q.2) nu') ∧ (∀ y, w y ≠ none → y ≠ T → w' y = w y) ∧ ((o = none ∧ cl_in f len sk v 160 q0 [] = (none, q)) ∨ ∃ (c : Nat) (ls : List Int32), o = some c ∧ w c = none ∧ cl_ok g w' c num ls ∧ cl_in f len sk v 160 q0 [] = (some ls, q))) := by
  refine hw_enterq (r := 3) rfl rfl (by simp [Value.category]) (Nat.le_of_ble_eq_true rfl) ?_
  intro p e s m args below meth c A X hr hlk hnm
  refine sg_Cl_clauseIn_0 X (fun _ _ _ _ _ _ h => h) (hw_rtq X hr hlk) ?_
  unfold vc_Cl_clauseIn_0
  refine ⟨⟨Nat.le_of_ble_eq_true rfl, Nat.le_of_ble_eq_true rfl⟩, fun kc w1 hqc e1 => ?_⟩
  subst e1
  refine hw_cv_n (by decide) (by decide) (ct_Cl_init l g _ (va_up_self _ _ _)) (Nat.le_of_ble_eq_true rfl) (Nat.le_of_ble_eq_true rfl) ?_
  rintro w2 ⟨la, hqa, rfl⟩
  have nTc : T ≠ kc := hw_nn hT hqc
  have nTCc : TC ≠ kc := hw_nn hC hqc
  have hT1 := hw_un hT hqc (some (.inr (5, [.int 0, .null, .int 0, .int 0])))
  have hC1 := hw_un hC hqc (some (.inr (5, [.int 0, .null, .int 0, .int 0])))
  have nTa : T ≠ la := hw_nn hT1 hqa
  have nTCa : TC ≠ la := hw_nn hC1 hqa
  have nca : kc ≠ la := by rintro rfl; rw [va_up_self] at hqa; cases hqa
  have hla : w la = none := by rw [va_up_ne _ _ nca.symm] at hqa; exact hqa
  have nTTC : T ≠ TC := by rintro rfl; rw [hT] at hC; cases hC
  have L1 : ∀ (d i : Nat) (q : Nat × Nat) (ls : List Int32) (f1 : Nat → Int32) (nu1 : Int32) (w3 : hw_H), i + d = 160 → q.1 ≤ q.2 → q.2 ≤ len → cl_in f len sk v d q ls = cl_in f len sk v 160 q0 [] → w3 T = some (tx_o TC (nI len) sk (nI q.1) (nI q.2) nu1) → w3 kc = some (cl_o num la ls) → w3 la = some (.inl (g.2.1 0, 6, .inl f1)) → cl_ar f1 ls → (∀ y, w y ≠ none → y ≠ T → w3 y = w y) → hw_Jq p l e (hw_R 8 2 10) s m args below meth c 6 g A (fun o w' => ∃ (q : Nat × Nat) (nu' : Int32), q.1 ≤ q.2 ∧ q.2 ≤ len ∧ w' T = some (tx_o TC (nI len) sk (nI q.1) (nI q.2) nu') ∧ (∀ y, w y ≠ none → y ≠ T → w' y = w y) ∧ ((o = none ∧ cl_in f len sk v 160 q0 [] = (none, q)) ∨ ∃ (c : Nat) (ls : List Int32), o = some c ∧ w c = none ∧ cl_ok g w' c num ls ∧ cl_in f len sk v 160 q0 [] = (some ls, q))) 2 10 12 [some (.ref T), some (.int num), some (.int v), some (.ref kc), some (.int (nI i)), none] [] w3 := by
    intro d
    induction d with
    | zero =>
      intro i q ls f1 nu1 w3 hi h1 h2 hin aT ac aa hf hk
      have hi2 : i = 160 := by omega
      subst hi2
      refine sg_Cl_clauseIn_12 X (fun _ _ _ _ _ _ h => h) (hw_rtq X hr hlk) ?_
      unfold vc_Cl_clauseIn_12
      exact ⟨fun _ => ⟨⟨Nat.le_of_ble_eq_true rfl, Nat.le_of_ble_eq_true rfl⟩, q, nu1, h1, h2, aT, hk, Or.inl ⟨rfl, hin.symm⟩⟩, fun h => absurd (by decide) h⟩
    | succ d ih =>
      intro i q ls f1 nu1 w3 hi h1 h2 hin aT ac aa hf hk
      have aC : w3 TC = some (.inl (g.2.1 1, 160, .inl f)) := by rw [hk TC (by rw [hC]; exact Option.some_ne_none _) nTTC.symm]; exact hC
      refine sg_Cl_clauseIn_12 X (fun _ _ _ _ _ _ h => h) (hw_rtq X hr hlk) ?_
      unfold vc_Cl_clauseIn_12
      refine ⟨fun h => absurd h (nI_ge (b := 160) (by omega) (by omega)), fun _ => ⟨hw_o_of aT rfl rfl, hw_ci_0 (by decide) (by decide) (ct_Te_isNumber (lo := -v) (hi := v) l g w3 aT aC hl h1 h2) (Nat.le_of_ble_eq_true rfl) (Nat.le_of_ble_eq_true rfl) ?_⟩⟩
      rintro r w4 ⟨hno, hyes⟩
      unfold cl_in at hin
      cases hn : tx_num f q.1 q.2 with
      | none =>
        obtain ⟨rfl, rfl⟩ := hno hn
        rw [hn] at hin
        exact ⟨fun _ => ⟨⟨Nat.le_of_ble_eq_true rfl, Nat.le_of_ble_eq_true rfl⟩, q, nu1, h1, h2, aT, hk, Or.inl ⟨rfl, hin.symm⟩⟩, fun h => absurd rfl h⟩
      | some x =>
        obtain ⟨rfl, rfl⟩ := hyes x hn
        rw [hn] at hin
        dsimp only at hin
        have keep : ∀ e, (∀ y, w y ≠ none → y ≠ T → (va_up w3 T e) y = w y) := fun e y hy hyT => by rw [va_up_ne _ _ hyT]; exact hk y hy hyT
        refine ⟨fun h => ?_, fun h => ?_⟩
        · rw [hw_z_eq] at h
          rw [if_neg (by simp [h])] at hin
          exact ⟨⟨Nat.le_of_ble_eq_true rfl, Nat.le_of_ble_eq_true rfl⟩, q, x, h1, h2, (va_up_self _ _ _), keep _, Or.inl ⟨rfl, hin.symm⟩⟩
        rw [hw_z_ne] at h
        rw [if_pos h] at hin
        have ab := tx_adv_b (f := f) (sk := sk) h2
        have bC : ∀ e, (va_up w3 T e) TC = some (.inl (g.2.1 1, 160, .inl f)) := fun e => by rw [va_up_ne _ _ nTTC.symm]; exact aC
        have bc : ∀ e, (va_up w3 T e) kc = some (cl_o num la ls) := fun e => by rw [va_up_ne _ _ nTc.symm]; exact ac
        have ba : ∀ e, (va_up w3 T e) la = some (.inl (g.2.1 0, 6, .inl f1)) := fun e => by rw [va_up_ne _ _ nTa.symm]; exact aa
        refine ⟨_, ⟨_, (va_up_self _ _ _), rfl⟩, fun hx => ?_, fun hx => ?_⟩
        · refine ⟨hw_o_of (va_up_self _ _ _) rfl rfl, hw_cv_0 (by decide) (by decide) (ct_Te_advance (TC := TC) (len := len) (pe := q.2) (sk := sk) (st := nI q.1) (nu := x) (f := f) l g _ (va_up_self _ _ _) (bC _) hl h2) (Nat.le_of_ble_eq_true rfl) (Nat.le_of_ble_eq_true rfl) ?_⟩
          rintro w5 rfl
          refine ⟨fun z => absurd hx z, fun _ => ?_⟩
          rw [if_pos hx] at hin
          refine ⟨⟨Nat.le_of_ble_eq_true rfl, Nat.le_of_ble_eq_true rfl⟩, tx_adv f len sk q.2, x, ab.2.1, ab.2.2, (va_up_self _ _ _), ?_, Or.inr ⟨kc, ls, rfl, hqc, ⟨la, f1, ?_, ?_, hf⟩, hin.symm⟩⟩
          · intro y hy hyT; rw [va_up_ne _ _ hyT]; exact keep _ y hy hyT
          · rw [va_up_ne _ _ nTc.symm]; exact bc _
          · rw [va_up_ne _ _ nTa.symm]; exact ba _
        · rw [if_neg hx] at hin
          refine ⟨hw_o_of (bc _) rfl rfl, hw_ci_0 (by decide) (by decide) (ct_Cl_accept (x := x) l g _ (bc _) (ba _) hf) (Nat.le_of_ble_eq_true rfl) (Nat.le_of_ble_eq_true rfl) ?_⟩
          rintro r w5 ⟨p1, p2, p3⟩
          by_cases hm : (cl_mask ls &&& cl_bit x) = 0
          · rw [if_neg (by simp [hm])] at hin
            by_cases h6 : ls.length < 6
            · rw [if_pos h6] at hin
              obtain ⟨rfl, rfl⟩ := p2 hm h6
              refine ⟨fun _ => ⟨hw_o_of (by rw [va_up_ne _ _ nTc, va_up_ne _ _ nTa]; exact (va_up_self _ _ _)) rfl rfl, hw_cv_0 (by decide) (by decide) (ct_Te_advance (TC := TC) (len := len) (pe := q.2) (sk := sk) (st := nI q.1) (nu := x) (f := f) l g _ (by rw [va_up_ne _ _ nTc, va_up_ne _ _ nTa]; exact (va_up_self _ _ _)) (by rw [va_up_ne _ _ nTCc, va_up_ne _ _ nTCa]; exact bC _) hl h2) (Nat.le_of_ble_eq_true rfl) (Nat.le_of_ble_eq_true rfl) ?_⟩, fun z => absurd z (by decide)⟩
              rintro w6 rfl
              refine ⟨fun _ => ?_, fun z => absurd z hx⟩
              rw [nI_1]
              refine ih (i + 1) (tx_adv f len sk q.2) (x :: ls) (upd f1 ls.length x) x _ (by omega) ab.2.1 ab.2.2 hin (va_up_self _ _ _) ?_ ?_ (cl_ar_s hf h6) ?_
              · rw [va_up_ne _ _ nTc.symm]; exact (va_up_self _ _ _)
              · rw [va_up_ne _ _ nTa.symm, va_up_ne _ _ nca.symm]; exact (va_up_self _ _ _)
              · intro y hy hyT
                have yc : y ≠ kc := by rintro rfl; exact hy hqc
                have ya : y ≠ la := by rintro rfl; exact hy hla
                rw [va_up_ne _ _ hyT, va_up_ne _ _ yc, va_up_ne _ _ ya]
                exact keep _ y hy hyT
            · rw [if_neg h6] at hin
              obtain ⟨rfl, rfl⟩ := p3 hm h6
              exact ⟨fun z => absurd rfl z, fun _ => ⟨⟨Nat.le_of_ble_eq_true rfl, Nat.le_of_ble_eq_true rfl⟩, q, x, h1, h2, (va_up_self _ _ _), keep _, Or.inl ⟨rfl, hin.symm⟩⟩⟩
          · rw [if_pos hm] at hin
            obtain ⟨rfl, rfl⟩ := p1 hm
            refine ⟨fun _ => ⟨hw_o_of (va_up_self _ _ _) rfl rfl, hw_cv_0 (by decide) (by decide) (ct_Te_advance (TC := TC) (len := len) (pe := q.2) (sk := sk) (st := nI q.1) (nu := x) (f := f) l g _ (va_up_self _ _ _) (bC _) hl h2) (Nat.le_of_ble_eq_true rfl) (Nat.le_of_ble_eq_true rfl) ?_⟩, fun z => absurd z (by decide)⟩
            rintro w6 rfl
            refine ⟨fun _ => ?_, fun z => absurd z hx⟩
            rw [nI_1]
            refine ih (i + 1) (tx_adv f len sk q.2) ls f1 x _ (by omega) ab.2.1 ab.2.2 hin (va_up_self _ _ _) ?_ ?_ hf ?_
            · rw [va_up_ne _ _ nTc.symm]; exact bc _
            · rw [va_up_ne _ _ nTa.symm]; exact ba _
            · intro y hy hyT
              rw [va_up_ne _ _ hyT]
              exact keep _ y hy hyT
  refine L1 160 0 q0 [] (fun _ => 0) nu _ rfl hab hbl rfl ?_ (va_up_self _ _ _) ?_ cl_ar_0 ?_
  · rw [va_up_ne _ _ nTc, va_up_ne _ _ nTa]; exact hT1
  · rw [va_up_ne _ _ nca.symm]; exact (va_up_self _ _ _)
  · intro y hy hyT
    have yc : y ≠ kc := by rintro rfl; exact hy hqc
    have ya : y ≠ la := by rintro rfl; exact hy hla
    rw [va_up_ne _ _ yc, va_up_ne _ _ ya, va_up_ne _ _ yc]
