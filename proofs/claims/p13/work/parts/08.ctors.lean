abbrev ai_0 (g : hw_G) (t n : Nat) : va_E := .inl (g.2.1 t, n, .inl (fun _ => 0))
abbrev aq_0 (g : hw_G) (n : Nat) : va_E := .inl (g.2.1 3, n, .inr (.inr (.inr (.inr (fun _ => none)))))
theorem hw_nn {w : hw_H} {a q : Nat} {e : va_E} (h : w a = some e) (hq : w q = none) : a ≠ q := by
  rintro rfl
  rw [h] at hq
  cases hq
theorem hw_un {w : hw_H} {a q : Nat} {e : va_E} (h : w a = some e) (hq : w q = none) (x : Option va_E) : (va_up w q x) a = some e := by
  rw [va_up_ne _ _ (hw_nn h hq)]
  exact h
set_option maxHeartbeats 4000000 in
set_option maxRecDepth 100000 in
theorem ct_Te_init (l : Launch) (g : hw_G) (w : hw_H) {T : Nat} (hT : w T = some (.inr (0, [.null, .int 0, .int 0, .int 0, .int 0, .int 0]))) : hw_Mv l g ym_Te_init mw_Te_init (hw_R 1 1 160) [.ref T] w (fun w' => ∃ q : Nat, w q = none ∧ w' = va_up (va_up w q (some (ai_0 g 1 160))) T (some (tx_o q 0 0 0 0 0))) := by
  refine hw_enterv (r := 0) rfl rfl (by simp [Value.category]) (Nat.le_of_ble_eq_true rfl) ?_
  intro p e s m args below meth c A X hr hlk hnm
  refine sg_Te_init_0 X hnm ⟨Nat.le_of_ble_eq_true rfl, Nat.le_of_ble_eq_true rfl⟩ (fun _ _ _ _ _ _ h => h) (hw_rtv X hr hlk) ?_
  unfold vc_Te_init_0
  refine ⟨⟨Nat.le_of_ble_eq_true rfl, Nat.le_of_ble_eq_true rfl⟩, fun q1 w2 hq e2 => ?_⟩
  subst e2
  exact ⟨_, ⟨_, hw_un hT hq _, Nat.le_of_ble_eq_true rfl, rfl⟩, ⟨Nat.le_of_ble_eq_true rfl, Nat.le_of_ble_eq_true rfl⟩, q1, hq, rfl⟩
set_option maxHeartbeats 4000000 in
set_option maxRecDepth 100000 in
theorem ct_Pr_init (l : Launch) (g : hw_G) (w : hw_H) {P0 : Nat} (hP : w P0 = some (.inr (1, [.null, .int 0, .int 0, .int 0]))) : hw_Mv l g ym_Pr_init mw_Pr_init (hw_R 1 1 40) [.ref P0] w (fun w' => ∃ q : Nat, w q = none ∧ w' = va_up (va_up w q (some (aq_0 g 40))) P0 (some (.inr (1, [.ref q, .int 0, .int 0, .int 0])))) := by
  refine hw_enterv (r := 0) rfl rfl (by simp [Value.category]) (Nat.le_of_ble_eq_true rfl) ?_
  intro p e s m args below meth c A X hr hlk hnm
  refine sg_Pr_init_0 X hnm ⟨Nat.le_of_ble_eq_true rfl, Nat.le_of_ble_eq_true rfl⟩ (fun _ _ _ _ _ _ h => h) (hw_rtv X hr hlk) ?_
  unfold vc_Pr_init_0
  refine ⟨⟨Nat.le_of_ble_eq_true rfl, Nat.le_of_ble_eq_true rfl⟩, fun q1 w2 hq e2 => ?_⟩
  subst e2
  exact ⟨_, ⟨_, hw_un hP hq _, Nat.le_of_ble_eq_true rfl, rfl⟩, ⟨Nat.le_of_ble_eq_true rfl, Nat.le_of_ble_eq_true rfl⟩, q1, hq, rfl⟩
set_option maxHeartbeats 4000000 in
set_option maxRecDepth 100000 in
theorem ct_Fo_init (l : Launch) (g : hw_G) (w : hw_H) {F : Nat} {x : Int32} (hF : w F = some (.inr (3, [.int 0, .null, .int 0, .int 0]))) : hw_Mv l g ym_Fo_init mw_Fo_init (hw_R 1 1 24) [.ref F, .int x] w (fun w' => ∃ q : Nat, w q = none ∧ w' = va_up (va_up w q (some (aq_0 g 24))) F (some (.inr (3, [.int x, .ref q, .int 0, .int (-1)])))) := by
  refine hw_enterv (r := 0) rfl rfl (by simp [Value.category]) (Nat.le_of_ble_eq_true rfl) ?_
  intro p e s m args below meth c A X hr hlk hnm
  refine sg_Fo_init_0 X hnm ⟨Nat.le_of_ble_eq_true rfl, Nat.le_of_ble_eq_true rfl⟩ (fun _ _ _ _ _ _ h => h) (hw_rtv X hr hlk) ?_
  unfold vc_Fo_init_0
  refine ⟨⟨Nat.le_of_ble_eq_true rfl, Nat.le_of_ble_eq_true rfl⟩, fun q1 w2 hq e2 => ?_⟩
  subst e2
  refine ⟨_, ⟨_, hw_un hF hq _, Nat.le_of_ble_eq_true rfl, rfl⟩, _, ⟨_, (va_up_self _ _ _), Nat.le_of_ble_eq_true rfl, rfl⟩, _, ⟨_, (va_up_self _ _ _), Nat.le_of_ble_eq_true rfl, rfl⟩, ⟨Nat.le_of_ble_eq_true rfl, Nat.le_of_ble_eq_true rfl⟩, q1, hq, ?_⟩
  rw [bx_uu]
  exact bx_uu _ _ _ _
theorem hw_ku {w : hw_H} {S q : Nat} {x y : Option va_E} (hq : w q = none) : ∀ a, w a ≠ none → a ≠ S → (va_up (va_up w q x) S y) a = w a := by
  intro a h1 h2
  rw [va_up_ne _ _ h2, va_up_ne]
  rintro rfl
  exact h1 hq
theorem hw_kt {w w1 w2 : hw_H} {S : Nat} (h1 : ∀ a, w a ≠ none → a ≠ S → w1 a = w a) (h2 : ∀ a, w1 a ≠ none → a ≠ S → w2 a = w1 a) : ∀ a, w a ≠ none → a ≠ S → w2 a = w a := by
  intro a h3 h4
  rw [h2 a (by rw [h1 a h3 h4]; exact h3) h4, h1 a h3 h4]
set_option maxHeartbeats 4000000 in
set_option maxRecDepth 100000 in
theorem ct_Se_init (l : Launch) (g : hw_G) (w : hw_H) {S : Nat} (hS : w S = some (.inr (2, [.null, .int 0, .int 0, .int 0, .int 0, .int 0, .int 0, .int 0, .null, .null, .int 0, .null, .int 0, .null, .int 0]))) : hw_Mv l g ym_Se_init mw_Se_init (hw_R 1 5 2114) [.ref S] w (fun w' => ∃ SC ST SR SK SH : Nat, w' S = some (.inr (2, [.ref SC, .int 0, .int 0, .int 0, .int 0, .int 0, .int 0, .int 0, .ref ST, .ref SR, .int 0, .ref SK, .int 0, .ref SH, .int 0])) ∧ ∀ a, w a ≠ none → a ≠ S → w' a = w a) := by
  refine hw_enterv (r := 0) rfl rfl (by simp [Value.category]) (Nat.le_of_ble_eq_true rfl) ?_
  intro p e s m args below meth c A X hr hlk hnm
  refine sg_Se_init_0 X hnm ⟨Nat.le_of_ble_eq_true rfl, Nat.le_of_ble_eq_true rfl⟩ (fun _ _ _ _ _ _ h => h) (hw_rtv X hr hlk) ?_
  unfold vc_Se_init_0
  refine ⟨⟨Nat.le_of_ble_eq_true rfl, Nat.le_of_ble_eq_true rfl⟩, fun q1 w1 hq1 e1 => ?_⟩
  subst e1
  refine ⟨_, ⟨_, hw_un hS hq1 _, Nat.le_of_ble_eq_true rfl, rfl⟩, ?_⟩
  have k1 := hw_ku (S := S) (x := some (ai_0 g 0 2072)) (y := some (.inr (2, (([.null, .int 0, .int 0, .int 0, .int 0, .int 0, .int 0, .int 0, .null, .null, .int 0, .null, .int 0, .null, .int 0] : List Value).set 0 (.ref q1))))) hq1
  refine ⟨⟨Nat.le_of_ble_eq_true rfl, Nat.le_of_ble_eq_true rfl⟩, fun q2 w2 hq2 e2 => ?_⟩
  subst e2
  refine ⟨_, ⟨_, hw_un (va_up_self _ _ _) hq2 _, Nat.le_of_ble_eq_true rfl, rfl⟩, ?_⟩
  have k2 := hw_kt k1 (hw_ku (S := S) (x := some (ai_0 g 0 10)) (y := some (.inr (2, ((([.null, .int 0, .int 0, .int 0, .int 0, .int 0, .int 0, .int 0, .null, .null, .int 0, .null, .int 0, .null, .int 0] : List Value).set 0 (.ref q1)).set 8 (.ref q2))))) hq2)
  refine ⟨⟨Nat.le_of_ble_eq_true rfl, Nat.le_of_ble_eq_true rfl⟩, fun q3 w3 hq3 e3 => ?_⟩
  subst e3
  refine ⟨_, ⟨_, hw_un (va_up_self _ _ _) hq3 _, Nat.le_of_ble_eq_true rfl, rfl⟩, ?_⟩
  have k3 := hw_kt k2 (hw_ku (S := S) (x := some (ai_0 g 0 10)) (y := some (.inr (2, (((([.null, .int 0, .int 0, .int 0, .int 0, .int 0, .int 0, .int 0, .null, .null, .int 0, .null, .int 0, .null, .int 0] : List Value).set 0 (.ref q1)).set 8 (.ref q2)).set 9 (.ref q3))))) hq3)
  refine ⟨⟨Nat.le_of_ble_eq_true rfl, Nat.le_of_ble_eq_true rfl⟩, fun q4 w4 hq4 e4 => ?_⟩
  subst e4
  refine ⟨_, ⟨_, hw_un (va_up_self _ _ _) hq4 _, Nat.le_of_ble_eq_true rfl, rfl⟩, ?_⟩
  have k4 := hw_kt k3 (hw_ku (S := S) (x := some (ai_0 g 0 11)) (y := some (.inr (2, ((((([.null, .int 0, .int 0, .int 0, .int 0, .int 0, .int 0, .int 0, .null, .null, .int 0, .null, .int 0, .null, .int 0] : List Value).set 0 (.ref q1)).set 8 (.ref q2)).set 9 (.ref q3)).set 11 (.ref q4))))) hq4)
  refine ⟨⟨Nat.le_of_ble_eq_true rfl, Nat.le_of_ble_eq_true rfl⟩, fun q5 w5 hq5 e5 => ?_⟩
  subst e5
  refine ⟨_, ⟨_, hw_un (va_up_self _ _ _) hq5 _, Nat.le_of_ble_eq_true rfl, rfl⟩, ?_⟩
  have k5 := hw_kt k4 (hw_ku (S := S) (x := some (ai_0 g 0 11)) (y := some (.inr (2, (((((([.null, .int 0, .int 0, .int 0, .int 0, .int 0, .int 0, .int 0, .null, .null, .int 0, .null, .int 0, .null, .int 0] : List Value).set 0 (.ref q1)).set 8 (.ref q2)).set 9 (.ref q3)).set 11 (.ref q4)).set 13 (.ref q5))))) hq5)
  exact ⟨⟨Nat.le_of_ble_eq_true rfl, Nat.le_of_ble_eq_true rfl⟩, q1, q2, q3, q4, q5, (va_up_self _ _ _), k5⟩
set_option maxHeartbeats 4000000 in
set_option maxRecDepth 100000 in
theorem ct_Pr_begin0 (l : Launch) (g : hw_G) (w : hw_H) {P0 PA F FA : Nat} {a b c0 fc : Int32} (hP : w P0 = some (.inr (1, [.ref PA, .int a, .int b, .int c0]))) (hF : w F = some (fo_o FA fc)) : hw_Mv l g ym_Pr_begin mw_Pr_begin (hw_R 1 0 0) [.ref P0, .ref F] w (fun w' => w' = va_up w P0 (some (.inr (1, [.ref PA, .int 0, .int 0, .int 0])))) := by
  refine hw_enterv (r := 1) rfl rfl (by simp [Value.category]) (Nat.le_of_ble_eq_true rfl) ?_
  intro p e s m args below meth c A X hr hlk hnm
  refine sg_Pr_begin_0 X (fun _ _ _ _ _ _ h => h) (hw_rtv X hr hlk) ?_
  unfold vc_Pr_begin_0
  have hne : F ≠ P0 := by rintro rfl; rw [hP] at hF; cases hF
  have hF1 : ∀ x, (va_up w P0 x) F = some (fo_o FA fc) := fun x => by rw [va_up_ne _ _ hne]; exact hF
  refine sg_Pr_begin_2 X (fun _ _ _ _ _ _ h => h) (hw_rtv X hr hlk) ?_
  unfold vc_Pr_begin_2
  refine ⟨_, ⟨_, hF, rfl⟩, fun _ => ⟨_, ⟨_, hF, rfl⟩, _, ⟨_, hP, Nat.le_of_ble_eq_true rfl, rfl⟩, _, ⟨_, hF1 _, rfl⟩, _, ⟨_, (va_up_self _ _ _), Nat.le_of_ble_eq_true rfl, rfl⟩, _, ⟨_, (va_up_self _ _ _), Nat.le_of_ble_eq_true rfl, rfl⟩, Or.inl rfl, hw_00, ?_⟩, (fun h => absurd (by decide) h)⟩
  rw [bx_uu]
  exact bx_uu _ _ _ _
set_option maxHeartbeats 4000000 in
set_option maxRecDepth 100000 in
theorem ct_Se_begin0 (l : Launch) (g : hw_G) (w : hw_H) {S SC ST SR SK SH F FA : Nat} {fc : Int32} (hS : w S = some (.inr (2, [.ref SC, .int 0, .int 0, .int 0, .int 0, .int 0, .int 0, .int 0, .ref ST, .ref SR, .int 0, .ref SK, .int 0, .ref SH, .int 0]))) (hF : w F = some (fo_o FA fc)) : hw_Mv l g ym_Se_begin mw_Se_begin (hw_R 1 0 0) [.ref S, .ref F] w (fun w' => w' = va_up w S (some (se_o SC ST SR SK SH 0 0 0 1))) := by
  refine hw_enterv (r := 1) rfl rfl (by simp [Value.category]) (Nat.le_of_ble_eq_true rfl) ?_
  intro p e s m args below meth c A X hr hlk hnm
  refine sg_Se_begin_0 X (fun _ _ _ _ _ _ h => h) (hw_rtv X hr hlk) ?_
  unfold vc_Se_begin_0
  have hne : F ≠ S := by rintro rfl; rw [hS] at hF; cases hF
  have hF1 : ∀ x, (va_up w S x) F = some (fo_o FA fc) := fun x => by rw [va_up_ne _ _ hne]; exact hF
  refine ⟨_, ⟨_, hF, rfl⟩, _, ⟨_, hS, Nat.le_of_ble_eq_true rfl, rfl⟩, ?_⟩
  refine sg_Se_begin_10 X (fun _ _ _ _ _ _ h => h) (hw_rtv X hr hlk) ?_
  unfold vc_Se_begin_10
  refine ⟨_, ⟨_, (va_up_self _ _ _), rfl⟩, fun _ => ⟨_, ⟨_, hF1 _, rfl⟩, _, ⟨_, (va_up_self _ _ _), Nat.le_of_ble_eq_true rfl, rfl⟩, _, ⟨_, (va_up_self _ _ _), Nat.le_of_ble_eq_true rfl, rfl⟩, Or.inl rfl, _, ⟨_, (va_up_self _ _ _), Nat.le_of_ble_eq_true rfl, rfl⟩, Or.inl rfl, _, ⟨_, (va_up_self _ _ _), Nat.le_of_ble_eq_true rfl, rfl⟩, Or.inl rfl, _, ⟨_, (va_up_self _ _ _), Nat.le_of_ble_eq_true rfl, rfl⟩, Or.inr rfl, _, ⟨_, (va_up_self _ _ _), Nat.le_of_ble_eq_true rfl, rfl⟩, _, ⟨_, (va_up_self _ _ _), Nat.le_of_ble_eq_true rfl, rfl⟩, _, ⟨_, (va_up_self _ _ _), Nat.le_of_ble_eq_true rfl, rfl⟩, hw_00, ?_⟩, (fun h => absurd (by decide) h)⟩
  rw [bx_uu, bx_uu, bx_uu, bx_uu, bx_uu, bx_uu, bx_uu]
  exact bx_uu _ _ _ _
set_option maxHeartbeats 4000000 in
set_option maxRecDepth 100000 in
theorem ct_Co_take0 (l : Launch) (g : hw_G) (w : hw_H) {C T P0 PA S SC ST SR SK SH F FA : Nat} {a b c0 fc : Int32} {v : Value} (hC : w C = some (.inr (4, [.ref T, .ref P0, .ref S, v]))) (hP : w P0 = some (.inr (1, [.ref PA, .int a, .int b, .int c0]))) (hS : w S = some (.inr (2, [.ref SC, .int 0, .int 0, .int 0, .int 0, .int 0, .int 0, .int 0, .ref ST, .ref SR, .int 0, .ref SK, .int 0, .ref SH, .int 0]))) (hF : w F = some (fo_o FA fc)) : hw_Mv l g ym_Co_take mw_Co_take (hw_R 2 0 0) [.ref C, .ref F] w (fun w' => w' = va_up (va_up (va_up w C (some (.inr (4, [.ref T, .ref P0, .ref S, .ref F])))) P0 (some (.inr (1, [.ref PA, .int 0, .int 0, .int 0])))) S (some (se_o SC ST SR SK SH 0 0 0 1))) := by
  refine hw_enterv (r := 0) rfl rfl (by simp [Value.category]) (Nat.le_of_ble_eq_true rfl) ?_
  intro p e s m args below meth c A X hr hlk hnm
  refine sg_Co_take_0 X (fun _ _ _ _ _ _ h => h) (hw_rtv X hr hlk) ?_
  unfold vc_Co_take_0
  have n1 : P0 ≠ C := by rintro rfl; rw [hP] at hC; cases hC
  have n2 : F ≠ C := by rintro rfl; rw [hF] at hC; cases hC
  have n3 : S ≠ C := by rintro rfl; rw [hS] at hC; cases hC
  have n4 : S ≠ P0 := by rintro rfl; rw [hS] at hP; cases hP
  have n5 : F ≠ P0 := by rintro rfl; rw [hF] at hP; cases hP
  refine ⟨_, ⟨_, hC, Nat.le_of_ble_eq_true rfl, rfl⟩, _, ⟨_, (va_up_self _ _ _), rfl⟩, hw_o_of (by rw [va_up_ne _ _ n1]; exact hP) rfl rfl, hw_cv_0 (by decide) (by decide) (ct_Pr_begin0 (FA := FA) (fc := fc) l g _ (by rw [va_up_ne _ _ n1]; exact hP) (by rw [va_up_ne _ _ n2]; exact hF)) (Nat.zero_le _) (Nat.zero_le _) ?_⟩
  rintro w' rfl
  have hS1 : (va_up (va_up w C (some (.inr (4, [.ref T, .ref P0, .ref S, .ref F])))) P0 (some (.inr (1, [.ref PA, .int 0, .int 0, .int 0])))) S = some (.inr (2, [.ref SC, .int 0, .int 0, .int 0, .int 0, .int 0, .int 0, .int 0, .ref ST, .ref SR, .int 0, .ref SK, .int 0, .ref SH, .int 0])) := by rw [va_up_ne _ _ n4, va_up_ne _ _ n3]; exact hS
  refine ⟨_, ⟨_, by rw [va_up_ne _ _ n1.symm]; exact (va_up_self _ _ _), rfl⟩, hw_o_of hS1 rfl rfl, hw_cv_0 (by decide) (by decide) (ct_Se_begin0 (FA := FA) (fc := fc) l g _ hS1 (by rw [va_up_ne _ _ n5, va_up_ne _ _ n2]; exact hF)) (Nat.zero_le _) (Nat.zero_le _) ?_⟩
  rintro w' rfl
  exact ⟨hw_00, rfl⟩
set_option maxHeartbeats 4000000 in
set_option maxRecDepth 100000 in
theorem ct_Co_init (l : Launch) (g : hw_G) (w : hw_H) {C : Nat} (hC : w C = some (.inr (4, [.null, .null, .null, .null]))) : hw_Mv l g ym_Co_init mw_Co_init (hw_R 3 12 2400) [.ref C] w (fun w' => ∃ T TC P0 PA S SC ST SR SK SH F FA : Nat, w' C = some (.inr (4, [.ref T, .ref P0, .ref S, .ref F])) ∧ w' T = some (tx_o TC 0 0 0 0 0) ∧ w' TC = some (ai_0 g 1 160) ∧ w' P0 = some (.inr (1, [.ref PA, .int 0, .int 0, .int 0])) ∧ w' S = some (se_o SC ST SR SK SH 0 0 0 1) ∧ w' F = some (fo_o FA (-1))) := by
  refine hw_enterv (r := 0) rfl rfl (by simp [Value.category]) (Nat.le_of_ble_eq_true rfl) ?_
  intro p e s m args below meth c A X hr hlk hnm
  refine sg_Co_init_0 X hnm ⟨Nat.le_of_ble_eq_true rfl, Nat.le_of_ble_eq_true rfl⟩ (fun _ _ _ _ _ _ h => h) (hw_rtv X hr hlk) ?_
  unfold vc_Co_init_0
  refine ⟨⟨Nat.le_of_ble_eq_true rfl, Nat.le_of_ble_eq_true rfl⟩, fun T w1 hqT e1 => ?_⟩
  subst e1
  have hC1 := hw_un hC hqT (some (.inr (0, [.null, .int 0, .int 0, .int 0, .int 0, .int 0])))
  refine hw_cv_n (by decide) (by decide) (ct_Te_init l g _ (va_up_self _ _ _)) (Nat.le_of_ble_eq_true rfl) (Nat.le_of_ble_eq_true rfl) ?_
  rintro w2 ⟨TC, hqTC, rfl⟩
  have nCT : C ≠ T := hw_nn hC hqT
  have nCTC : C ≠ TC := hw_nn hC1 hqTC
  have nTTC : T ≠ TC := by rintro rfl; rw [va_up_self] at hqTC; cases hqTC
  have hC2 : ∀ x y, (va_up (va_up (va_up w T (some (.inr (0, [.null, .int 0, .int 0, .int 0, .int 0, .int 0])))) TC x) T y) C = some (.inr (4, [.null, .null, .null, .null])) := fun x y => by rw [va_up_ne _ _ nCT, va_up_ne _ _ nCTC]; exact hC1
  refine ⟨_, ⟨_, hC2 _ _, Nat.le_of_ble_eq_true rfl, rfl⟩, ⟨Nat.le_of_ble_eq_true rfl, Nat.le_of_ble_eq_true rfl⟩, fun P0 w3 hqP e3 => ?_⟩
  generalize hw2 : va_up (va_up (va_up (va_up w T (some (.inr (0, [.null, .int 0, .int 0, .int 0, .int 0, .int 0])))) TC (some (ai_0 g 1 160))) T (some (tx_o TC 0 0 0 0 0))) C (some (.inr (4, ([.null, .null, .null, .null] : List Value).set 0 (.ref T)))) = w2 at hqP e3
  have aC : w2 C = some (.inr (4, [.ref T, .null, .null, .null])) := by rw [← hw2]; exact (va_up_self _ _ _)
  have aT : w2 T = some (tx_o TC 0 0 0 0 0) := by rw [← hw2, va_up_ne _ _ nCT.symm]; exact (va_up_self _ _ _)
  have aTC : w2 TC = some (ai_0 g 1 160) := by rw [← hw2, va_up_ne _ _ nCTC.symm, va_up_ne _ _ nTTC.symm]; exact (va_up_self _ _ _)
  clear hw2
  subst e3
  have bC := hw_un aC hqP (some (.inr (1, [.null, .int 0, .int 0, .int 0])))
  have bT := hw_un aT hqP (some (.inr (1, [.null, .int 0, .int 0, .int 0])))
  have bTC := hw_un aTC hqP (some (.inr (1, [.null, .int 0, .int 0, .int 0])))
  have bP : (va_up w2 P0 (some (.inr (1, [.null, .int 0, .int 0, .int 0])))) P0 = some (.inr (1, [.null, .int 0, .int 0, .int 0])) := (va_up_self _ _ _)
  generalize va_up w2 P0 (some (.inr (1, [.null, .int 0, .int 0, .int 0]))) = w3 at bC bT bTC bP ⊢
  refine hw_cv_n (by decide) (by decide) (ct_Pr_init l g _ bP) (Nat.le_of_ble_eq_true rfl) (Nat.le_of_ble_eq_true rfl) ?_
  rintro w4 ⟨PA, hqPA, rfl⟩
  have nCP : C ≠ P0 := by rintro rfl; rw [bC] at bP; cases bP
  have nTP : T ≠ P0 := by rintro rfl; rw [bT] at bP; cases bP
  have nTCP : TC ≠ P0 := by rintro rfl; rw [bTC] at bP; cases bP
  have cC : ∀ x y, (va_up (va_up w3 PA x) P0 y) C = some (.inr (4, [.ref T, .null, .null, .null])) := fun x y => by rw [va_up_ne _ _ nCP]; exact hw_un bC hqPA _
  refine ⟨_, ⟨_, cC _ _, Nat.le_of_ble_eq_true rfl, rfl⟩, ⟨Nat.le_of_ble_eq_true rfl, Nat.le_of_ble_eq_true rfl⟩, fun S w5 hqS e5 => ?_⟩
  generalize hw4 : va_up (va_up (va_up w3 PA (some (aq_0 g 40))) P0 (some (.inr (1, [.ref PA, .int 0, .int 0, .int 0])))) C (some (.inr (4, ([.ref T, .null, .null, .null] : List Value).set 1 (.ref P0)))) = w4 at hqS e5
  have dC : w4 C = some (.inr (4, [.ref T, .ref P0, .null, .null])) := by rw [← hw4]; exact (va_up_self _ _ _)
  have dT : w4 T = some (tx_o TC 0 0 0 0 0) := by rw [← hw4, va_up_ne _ _ nCT.symm, va_up_ne _ _ nTP]; exact hw_un bT hqPA _
  have dTC : w4 TC = some (ai_0 g 1 160) := by rw [← hw4, va_up_ne _ _ nCTC.symm, va_up_ne _ _ nTCP]; exact hw_un bTC hqPA _
  have dP : w4 P0 = some (.inr (1, [.ref PA, .int 0, .int 0, .int 0])) := by rw [← hw4, va_up_ne _ _ nCP.symm]; exact (va_up_self _ _ _)
  clear hw4
  subst e5
  have eC := hw_un dC hqS (some (.inr (2, [.null, .int 0, .int 0, .int 0, .int 0, .int 0, .int 0, .int 0, .null, .null, .int 0, .null, .int 0, .null, .int 0])))
  have eT := hw_un dT hqS (some (.inr (2, [.null, .int 0, .int 0, .int 0, .int 0, .int 0, .int 0, .int 0, .null, .null, .int 0, .null, .int 0, .null, .int 0])))
  have eTC := hw_un dTC hqS (some (.inr (2, [.null, .int 0, .int 0, .int 0, .int 0, .int 0, .int 0, .int 0, .null, .null, .int 0, .null, .int 0, .null, .int 0])))
  have eP := hw_un dP hqS (some (.inr (2, [.null, .int 0, .int 0, .int 0, .int 0, .int 0, .int 0, .int 0, .null, .null, .int 0, .null, .int 0, .null, .int 0])))
  have eS : (va_up w4 S (some (.inr (2, [.null, .int 0, .int 0, .int 0, .int 0, .int 0, .int 0, .int 0, .null, .null, .int 0, .null, .int 0, .null, .int 0])))) S = some (.inr (2, [.null, .int 0, .int 0, .int 0, .int 0, .int 0, .int 0, .int 0, .null, .null, .int 0, .null, .int 0, .null, .int 0])) := (va_up_self _ _ _)
  generalize va_up w4 S (some (.inr (2, [.null, .int 0, .int 0, .int 0, .int 0, .int 0, .int 0, .int 0, .null, .null, .int 0, .null, .int 0, .null, .int 0]))) = w5 at eC eT eTC eP eS ⊢
  refine hw_cv_n (by decide) (by decide) (ct_Se_init l g _ eS) (Nat.le_of_ble_eq_true rfl) (Nat.le_of_ble_eq_true rfl) ?_
  rintro w6 ⟨SC, ST, SR, SK, SH, fS, hk6⟩
  have nCS : C ≠ S := by rintro rfl; rw [eC] at eS; cases eS
  have nTS : T ≠ S := by rintro rfl; rw [eT] at eS; cases eS
  have nTCS : TC ≠ S := by rintro rfl; rw [eTC] at eS; cases eS
  have nPS : P0 ≠ S := by rintro rfl; rw [eP] at eS; cases eS
  have fC : w6 C = some (.inr (4, [.ref T, .ref P0, .null, .null])) := by rw [hk6 C (by rw [eC]; exact Option.some_ne_none _) nCS]; exact eC
  have fT : w6 T = some (tx_o TC 0 0 0 0 0) := by rw [hk6 T (by rw [eT]; exact Option.some_ne_none _) nTS]; exact eT
  have fTC : w6 TC = some (ai_0 g 1 160) := by rw [hk6 TC (by rw [eTC]; exact Option.some_ne_none _) nTCS]; exact eTC
  have fP : w6 P0 = some (.inr (1, [.ref PA, .int 0, .int 0, .int 0])) := by rw [hk6 P0 (by rw [eP]; exact Option.some_ne_none _) nPS]; exact eP
  refine ⟨_, ⟨_, fC, Nat.le_of_ble_eq_true rfl, rfl⟩, ⟨Nat.le_of_ble_eq_true rfl, Nat.le_of_ble_eq_true rfl⟩, fun F w7 hqF e7 => ?_⟩
  generalize hw6 : va_up w6 C (some (.inr (4, ([.ref T, .ref P0, .null, .null] : List Value).set 2 (.ref S)))) = w8 at hqF e7
  have gC : w8 C = some (.inr (4, [.ref T, .ref P0, .ref S, .null])) := by rw [← hw6]; exact (va_up_self _ _ _)
  have gT : w8 T = some (tx_o TC 0 0 0 0 0) := by rw [← hw6, va_up_ne _ _ nCT.symm]; exact fT
  have gTC : w8 TC = some (ai_0 g 1 160) := by rw [← hw6, va_up_ne _ _ nCTC.symm]; exact fTC
  have gP : w8 P0 = some (.inr (1, [.ref PA, .int 0, .int 0, .int 0])) := by rw [← hw6, va_up_ne _ _ nCP.symm]; exact fP
  have gS : w8 S = some (.inr (2, [.ref SC, .int 0, .int 0, .int 0, .int 0, .int 0, .int 0, .int 0, .ref ST, .ref SR, .int 0, .ref SK, .int 0, .ref SH, .int 0])) := by rw [← hw6, va_up_ne _ _ nCS.symm]; exact fS
  clear hw6
  subst e7
  have iF : (va_up w8 F (some (.inr (3, [.int 0, .null, .int 0, .int 0])))) F = some (.inr (3, [.int 0, .null, .int 0, .int 0])) := (va_up_self _ _ _)
  have iC := hw_un gC hqF (some (.inr (3, [.int 0, .null, .int 0, .int 0])))
  have iT := hw_un gT hqF (some (.inr (3, [.int 0, .null, .int 0, .int 0])))
  have iTC := hw_un gTC hqF (some (.inr (3, [.int 0, .null, .int 0, .int 0])))
  have iP := hw_un gP hqF (some (.inr (3, [.int 0, .null, .int 0, .int 0])))
  have iS := hw_un gS hqF (some (.inr (3, [.int 0, .null, .int 0, .int 0])))
  generalize va_up w8 F (some (.inr (3, [.int 0, .null, .int 0, .int 0]))) = w9 at iF iC iT iTC iP iS ⊢
  refine hw_cv_n (by decide) (by decide) (ct_Fo_init l g _ iF) (Nat.le_of_ble_eq_true rfl) (Nat.le_of_ble_eq_true rfl) ?_
  rintro w10 ⟨FA, hqFA, rfl⟩
  have nCF : C ≠ F := by rintro rfl; rw [iC] at iF; cases iF
  have nTF : T ≠ F := by rintro rfl; rw [iT] at iF; cases iF
  have nTCF : TC ≠ F := by rintro rfl; rw [iTC] at iF; cases iF
  have nPF : P0 ≠ F := by rintro rfl; rw [iP] at iF; cases iF
  have nSF : S ≠ F := by rintro rfl; rw [iS] at iF; cases iF
  have jF : (va_up (va_up w9 FA (some (aq_0 g 24))) F (some (.inr (3, [.int 0, .ref FA, .int 0, .int (-1)])))) F = some (fo_o FA (-1)) := (va_up_self _ _ _)
  have jC : (va_up (va_up w9 FA (some (aq_0 g 24))) F (some (.inr (3, [.int 0, .ref FA, .int 0, .int (-1)])))) C = some (.inr (4, [.ref T, .ref P0, .ref S, .null])) := by rw [va_up_ne _ _ nCF]; exact hw_un iC hqFA _
  have jT : (va_up (va_up w9 FA (some (aq_0 g 24))) F (some (.inr (3, [.int 0, .ref FA, .int 0, .int (-1)])))) T = some (tx_o TC 0 0 0 0 0) := by rw [va_up_ne _ _ nTF]; exact hw_un iT hqFA _
  have jTC : (va_up (va_up w9 FA (some (aq_0 g 24))) F (some (.inr (3, [.int 0, .ref FA, .int 0, .int (-1)])))) TC = some (ai_0 g 1 160) := by rw [va_up_ne _ _ nTCF]; exact hw_un iTC hqFA _
  have jP : (va_up (va_up w9 FA (some (aq_0 g 24))) F (some (.inr (3, [.int 0, .ref FA, .int 0, .int (-1)])))) P0 = some (.inr (1, [.ref PA, .int 0, .int 0, .int 0])) := by rw [va_up_ne _ _ nPF]; exact hw_un iP hqFA _
  have jS : (va_up (va_up w9 FA (some (aq_0 g 24))) F (some (.inr (3, [.int 0, .ref FA, .int 0, .int (-1)])))) S = some (.inr (2, [.ref SC, .int 0, .int 0, .int 0, .int 0, .int 0, .int 0, .int 0, .ref ST, .ref SR, .int 0, .ref SK, .int 0, .ref SH, .int 0])) := by rw [va_up_ne _ _ nSF]; exact hw_un iS hqFA _
  generalize va_up (va_up w9 FA (some (aq_0 g 24))) F (some (.inr (3, [.int 0, .ref FA, .int 0, .int (-1)]))) = w11 at jF jC jT jTC jP jS ⊢
  refine ⟨hw_o_of jC rfl rfl, hw_cv_0 (by decide) (by decide) (ct_Co_take0 l g w11 jC jP jS jF) (Nat.le_of_ble_eq_true rfl) (Nat.le_of_ble_eq_true rfl) ?_⟩
  rintro w12 rfl
  refine ⟨⟨Nat.le_of_ble_eq_true rfl, Nat.le_of_ble_eq_true rfl⟩, T, TC, P0, PA, S, SC, ST, SR, SK, SH, F, FA, ?_, ?_, ?_, ?_, (va_up_self _ _ _), ?_⟩
  · rw [va_up_ne _ _ nCS, va_up_ne _ _ nCP]; exact (va_up_self _ _ _)
  · rw [va_up_ne _ _ nTS, va_up_ne _ _ nTP, va_up_ne _ _ nCT.symm]; exact jT
  · rw [va_up_ne _ _ nTCS, va_up_ne _ _ nTCP, va_up_ne _ _ nCTC.symm]; exact jTC
  · rw [va_up_ne _ _ nPS]; exact (va_up_self _ _ _)
  · rw [va_up_ne _ _ nSF.symm, va_up_ne _ _ nPF.symm, va_up_ne _ _ nCF.symm]; exact jF
