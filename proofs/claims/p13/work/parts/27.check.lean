abbrev ck_o (P L : Nat) (kn : Int32) (pl : Nat) : va_E := .inr (7, [.ref P, .ref L, .int kn, .int (nI pl)])
set_option maxHeartbeats 4000000 in
set_option maxRecDepth 100000 in
theorem ct_Ck_init (l : Launch) (g : hw_G) (w : hw_H) {K0 P L : Nat} (hK : w K0 = some (.inr (7, [.null, .null, .int 0, .int 0]))) : hw_Mv l g ym_Ck_init mw_Ck_init (hw_R 1 0 0) [.ref K0, .ref P, .ref L] w (fun w' => w' = va_up w K0 (some (ck_o P L 0 0))) := by
  refine hw_enterv (r := 0) rfl rfl (by simp [Value.category]) (Nat.le_of_ble_eq_true rfl) ?_
  intro p e s m args below meth c A X hr hlk hnm
  refine sg_Ck_init_0 X hnm ⟨Nat.le_of_ble_eq_true rfl, Nat.le_of_ble_eq_true rfl⟩ (fun _ _ _ _ _ _ h => h) (hw_rtv X hr hlk) ?_
  unfold vc_Ck_init_0
  refine ⟨_, ⟨_, hK, Nat.le_of_ble_eq_true rfl, rfl⟩, _, ⟨_, (va_up_self _ _ _), Nat.le_of_ble_eq_true rfl, rfl⟩, hw_00, ?_⟩
  exact bx_uu _ _ _ _
set_option maxHeartbeats 4000000 in
set_option maxRecDepth 100000 in
theorem ct_Ck_skipHints (l : Launch) (g : hw_G) (w : hw_H) {P : Nat} {L na k0 lc : Nat} {num : Int32} {fn : Nat → Int32} {K0 pl : Nat} {kn : Int32} (hL : w L = some (li_o num (some lc) na k0)) (hk0 : k0 ≤ 12) (hN : w na = some (ar_i g 12 fn)) (hK : w K0 = some (ck_o P L kn pl)) (hpl : pl ≤ k0) : hw_Mv l g ym_Ck_skipHints mw_Ck_skipHints (hw_R 1 0 0) [.ref K0] w (fun w' => ∃ (kn' : Int32) (pl' : Nat), pl' ≤ k0 ∧ w' = va_up w K0 (some (ck_o P L kn' pl'))) := by
  refine hw_enterv (r := 0) rfl rfl (by simp [Value.category]) (Nat.le_of_ble_eq_true rfl) ?_
  intro p e s m args below meth c A X hr hlk hnm
  have nLK : L ≠ K0 := by rintro rfl; rw [hL] at hK; cases hK
  have nNK : na ≠ K0 := by rintro rfl; rw [hN] at hK; cases hK
  have hL1 : ∀ e, (va_up w K0 e) L = some (li_o num (some lc) na k0) := fun e => by rw [va_up_ne _ _ nLK]; exact hL
  have hN1 : ∀ e, (va_up w K0 e) na = some (ar_i g 12 fn) := fun e => by rw [va_up_ne _ _ nNK]; exact hN
  have L1 : ∀ (d pl1 : Nat), pl1 + d = k0 → hw_Jv p l e (hw_R 1 0 0) s m args below meth c 1 g A (fun w' => ∃ (kn' : Int32) (pl' : Nat), pl' ≤ k0 ∧ w' = va_up w K0 (some (ck_o P L kn' pl'))) 0 0 0 [some (.ref K0)] [] (va_up w K0 (some (ck_o P L kn pl1))) := by
    intro d
    induction d with
    | zero =>
      intro pl1 hi
      have hi2 : pl1 = k0 := by omega
      subst hi2
      refine sg_Ck_skipHints_0 X (fun _ _ _ _ _ _ h => h) (hw_rtv X hr hlk) ?_
      unfold vc_Ck_skipHints_0
      exact ⟨_, ⟨_, (va_up_self _ _ _), rfl⟩, _, ⟨_, (va_up_self _ _ _), rfl⟩, _, ⟨_, hL1 _, rfl⟩, fun _ => ⟨hw_00, kn, pl1, Nat.le_refl _, rfl⟩, fun h => absurd (Int32.le_refl _) h⟩
    | succ d ih =>
      intro pl1 hi
      refine sg_Ck_skipHints_0 X (fun _ _ _ _ _ _ h => h) (hw_rtv X hr hlk) ?_
      unfold vc_Ck_skipHints_0
      refine ⟨_, ⟨_, (va_up_self _ _ _), rfl⟩, _, ⟨_, (va_up_self _ _ _), rfl⟩, _, ⟨_, hL1 _, rfl⟩, fun _ => ⟨hw_00, kn, pl1, by omega, rfl⟩, fun _ => ⟨_, ⟨_, (va_up_self _ _ _), rfl⟩, _, ⟨_, hL1 _, rfl⟩, _, ⟨_, (va_up_self _ _ _), rfl⟩, _, ⟨_, _, hN1 _, vp_in_nI (by omega) (by omega), rfl⟩, fun _ => ⟨hw_00, kn, pl1, by omega, rfl⟩, fun _ => ⟨_, ⟨_, (va_up_self _ _ _), rfl⟩, _, ⟨_, (va_up_self _ _ _), Nat.le_of_ble_eq_true rfl, rfl⟩, ?_⟩⟩⟩
      rw [bx_uu, nI_1]
      exact ih (pl1 + 1) (by omega)
  have := L1 (k0 - pl) pl (by omega)
  rw [hw_id hK] at this
  exact this
set_option maxHeartbeats 4000000 in
set_option maxRecDepth 100000 in
theorem ct_Ck_followHints (l : Launch) (g : hw_G) (w : hw_H) {P PA ps : Nat} {ph pe : Int32} {h : Nat → Option Nat} {L na k0 lc : Nat} {num : Int32} {fn : Nat → Int32} {K0 pl : Nat} {kn : Int32} (hP : w P = some (pr_o PA ps ph pe)) (hps : ps ≤ 40) (hPA : w PA = some (ar_q g 40 h)) (hcs : pr_ar g w h ps) (hL : w L = some (li_o num (some lc) na k0)) (hk0 : k0 ≤ 12) (hN : w na = some (ar_i g 12 fn)) (hK : w K0 = some (ck_o P L kn pl)) (hpl : pl ≤ k0) : hw_Mi l g ym_Ck_followHints mw_Ck_followHints (hw_R 3 0 0) [.ref K0] w (fun r w' => ∃ (kn' : Int32) (pl' : Nat), pl' ≤ k0 ∧ w' = va_up w K0 (some (ck_o P L kn' pl'))) := by
  refine hw_enteri (r := 2) rfl rfl (by simp [Value.category]) (Nat.le_of_ble_eq_true rfl) ?_
  intro p e s m args below meth c A X hr hlk hnm
  have nLK : L ≠ K0 := by rintro rfl; rw [hL] at hK; cases hK
  have nNK : na ≠ K0 := by rintro rfl; rw [hN] at hK; cases hK
  have hL1 : ∀ e, (va_up w K0 e) L = some (li_o num (some lc) na k0) := fun e => by rw [va_up_ne _ _ nLK]; exact hL
  have hN1 : ∀ e, (va_up w K0 e) na = some (ar_i g 12 fn) := fun e => by rw [va_up_ne _ _ nNK]; exact hN
  have nPK : P ≠ K0 := by rintro rfl; rw [hP] at hK; cases hK
  have nAK : PA ≠ K0 := by rintro rfl; rw [hPA] at hK; cases hK
  have hP1 : ∀ e, (va_up w K0 e) P = some (pr_o PA ps ph pe) := fun e => by rw [va_up_ne _ _ nPK]; exact hP
  have hA1 : ∀ e, (va_up w K0 e) PA = some (ar_q g 40 h) := fun e => by rw [va_up_ne _ _ nAK]; exact hPA
  have hc1 : ∀ e, pr_ar g (va_up w K0 e) h ps := fun e => pr_ar_u e hcs hK (by decide : (7 : Nat) ≠ 5)
  have L1 : ∀ (d pl1 : Nat) (kn1 : Int32), pl1 + d = k0 → hw_Ji p l e (hw_R 3 0 0) s m args below meth c 3 g A (fun r w' => ∃ (kn' : Int32) (pl' : Nat), pl' ≤ k0 ∧ w' = va_up w K0 (some (ck_o P L kn' pl'))) 0 0 0 [some (.ref K0), none, none] [] (va_up w K0 (some (ck_o P L kn1 pl1))) := by
    intro d
    induction d with
    | zero =>
      intro pl1 kn1 hi
      have hi2 : pl1 = k0 := by omega
      subst hi2
      refine sg_Ck_followHints_0 X (fun _ _ _ _ _ _ h => h) (hw_rti X hr hlk) ?_
      unfold vc_Ck_followHints_0
      exact ⟨_, ⟨_, (va_up_self _ _ _), rfl⟩, _, ⟨_, (va_up_self _ _ _), rfl⟩, _, ⟨_, hL1 _, rfl⟩, fun _ => ⟨_, ⟨_, (va_up_self _ _ _), rfl⟩, hw_00, kn1, pl1, Nat.le_refl _, rfl⟩, fun h => absurd (Int32.le_refl _) h⟩
    | succ d ih =>
      intro pl1 kn1 hi
      have hin : vp_in (nI pl1) 12 := vp_in_nI (by omega) (by omega)
      refine sg_Ck_followHints_0 X (fun _ _ _ _ _ _ h => h) (hw_rti X hr hlk) ?_
      unfold vc_Ck_followHints_0
      refine ⟨_, ⟨_, (va_up_self _ _ _), rfl⟩, _, ⟨_, (va_up_self _ _ _), rfl⟩, _, ⟨_, hL1 _, rfl⟩, fun _ => ⟨_, ⟨_, (va_up_self _ _ _), rfl⟩, hw_00, kn1, pl1, by omega, rfl⟩, fun _ => ⟨_, ⟨_, (va_up_self _ _ _), rfl⟩, _, ⟨_, hL1 _, rfl⟩, _, ⟨_, (va_up_self _ _ _), rfl⟩, _, ⟨_, _, hN1 _, hin, rfl⟩, fun _ => ⟨_, ⟨_, (va_up_self _ _ _), rfl⟩, hw_00, kn1, pl1, by omega, rfl⟩, fun _ => ⟨_, ⟨_, (va_up_self _ _ _), rfl⟩, _, ⟨_, (va_up_self _ _ _), rfl⟩, _, ⟨_, hL1 _, rfl⟩, _, ⟨_, (va_up_self _ _ _), rfl⟩, _, ⟨_, _, hN1 _, hin, rfl⟩, hw_o_of (hP1 _) rfl rfl, hw_cq_0 (by decide) (by decide) (ct_Pr_find l g _ (hP1 _) hps (hA1 _) (hc1 _)) (Nat.zero_le _) (Nat.zero_le _) ?_⟩⟩⟩
      rintro o w2 ⟨rfl, hs⟩
      refine ⟨fun _ => ⟨hw_00, kn1, pl1, by omega, rfl⟩, fun q19 hq => ?_⟩
      obtain ⟨num5, ls, la, f, c1, c2, c3⟩ := hs q19 hq
      refine ⟨_, ⟨_, c1, rfl⟩, _, ⟨_, (va_up_self _ _ _), rfl⟩, hw_ci_0 (by decide) (by decide) (ct_Co_follow l g _) (Nat.zero_le _) (Nat.zero_le _) ?_⟩
      rintro r w3 ⟨rfl, rfl⟩
      refine ⟨fun _ => ⟨_, ⟨_, (va_up_self _ _ _), Nat.le_of_ble_eq_true rfl, rfl⟩, _, ⟨_, (va_up_self _ _ _), rfl⟩, _, ⟨_, (va_up_self _ _ _), Nat.le_of_ble_eq_true rfl, rfl⟩, ?_⟩, fun _ => ⟨hw_00, kn1, pl1, by omega, rfl⟩⟩
      rw [bx_uu, bx_uu, nI_1]
      exact ih (pl1 + 1) _ (by omega)
  have := L1 (k0 - pl) pl kn (by omega)
  rw [hw_id hK] at this
  exact this
set_option maxHeartbeats 4000000 in
set_option maxRecDepth 100000 in
theorem ct_Ck_groupsHold (l : Launch) (g : hw_G) (w : hw_H) {P PA ps : Nat} {ph pe : Int32} {h : Nat → Option Nat} {L na k0 lc : Nat} {num : Int32} {fn : Nat → Int32} {K0 pl : Nat} {kn : Int32} (hP : w P = some (pr_o PA ps ph pe)) (hps : ps ≤ 40) (hPA : w PA = some (ar_q g 40 h)) (hcs : pr_ar g w h ps) (hL : w L = some (li_o num (some lc) na k0)) (hk0 : k0 ≤ 12) (hN : w na = some (ar_i g 12 fn)) (hlc : cl_s g w lc) (hK : w K0 = some (ck_o P L kn pl)) (hpl : pl ≤ k0) : hw_Mi l g ym_Ck_groupsHold mw_Ck_groupsHold (hw_R 4 0 0) [.ref K0] w (fun r w' => ∃ (kn' : Int32) (pl' : Nat), pl' ≤ k0 ∧ w' = va_up w K0 (some (ck_o P L kn' pl'))) := by
  refine hw_enteri (r := 5) rfl rfl (by simp [Value.category]) (Nat.le_of_ble_eq_true rfl) ?_
  intro p e s m args below meth c A X hr hlk hnm
  refine sg_Ck_groupsHold_0 X (fun _ _ _ _ _ _ h => h) (hw_rtz X hr hlk) ?_
  unfold vc_Ck_groupsHold_0
  have nLK : L ≠ K0 := by rintro rfl; rw [hL] at hK; cases hK
  have nNK : na ≠ K0 := by rintro rfl; rw [hN] at hK; cases hK
  have hL1 : ∀ e, (va_up w K0 e) L = some (li_o num (some lc) na k0) := fun e => by rw [va_up_ne _ _ nLK]; exact hL
  have hN1 : ∀ e, (va_up w K0 e) na = some (ar_i g 12 fn) := fun e => by rw [va_up_ne _ _ nNK]; exact hN
  have nPK : P ≠ K0 := by rintro rfl; rw [hP] at hK; cases hK
  have nAK : PA ≠ K0 := by rintro rfl; rw [hPA] at hK; cases hK
  have hP1 : ∀ e, (va_up w K0 e) P = some (pr_o PA ps ph pe) := fun e => by rw [va_up_ne _ _ nPK]; exact hP
  have hA1 : ∀ e, (va_up w K0 e) PA = some (ar_q g 40 h) := fun e => by rw [va_up_ne _ _ nAK]; exact hPA
  have hc1 : ∀ e, pr_ar g (va_up w K0 e) h ps := fun e => pr_ar_u e hcs hK (by decide : (7 : Nat) ≠ 5)
  have L1 : ∀ (d i pl1 : Nat) (kn1 x1 x2 : Int32), i + d = ps → pl1 ≤ k0 → hw_Ji p l e (hw_R 4 0 0) s m args below meth c 6 g A (fun r w' => ∃ (kn' : Int32) (pl' : Nat), pl' ≤ k0 ∧ w' = va_up w K0 (some (ck_o P L kn' pl'))) 0 0 24 [some (.ref K0), some (.int x1), some (.int x2), some (.int (nI i)), none, none] [] (va_up w K0 (some (ck_o P L kn1 pl1))) := by
    intro d
    induction d with
    | zero =>
      intro i pl1 kn1 x1 x2 hi hp1
      have hi2 : i = ps := by omega
      subst hi2
      refine sg_Ck_groupsHold_24 X (fun _ _ _ _ _ _ h => h) (hw_rtz X hr hlk) ?_
      unfold vc_Ck_groupsHold_24
      exact ⟨_, ⟨_, (va_up_self _ _ _), rfl⟩, _, ⟨_, hP1 _, rfl⟩, fun _ => ⟨_, ⟨_, (va_up_self _ _ _), rfl⟩, _, ⟨_, (va_up_self _ _ _), rfl⟩, _, ⟨_, hL1 _, rfl⟩, fun _ => ⟨hw_00, Or.inl rfl, kn1, pl1, hp1, rfl⟩, fun _ => ⟨hw_00, Or.inr rfl, kn1, pl1, hp1, rfl⟩⟩, fun h => absurd (Int32.le_refl _) h⟩
    | succ d ih =>
      intro i pl1 kn1 x1 x2 hi hp1
      obtain ⟨kc, hc, hs⟩ := hcs i (by omega)
      have hs1 : ∀ e, cl_s g (va_up w K0 e) kc := fun e => cl_s_u e hs hK (by decide : (7 : Nat) ≠ 5)
      have nkK : kc ≠ K0 := by
        rintro rfl
        obtain ⟨fs, z⟩ := cl_s_o hs
        rw [hK] at z; cases z
      obtain ⟨num5, ls, la, f, c1, c2, c3⟩ := hs
      have c1' : ∀ e, (va_up w K0 e) kc = some (cl_o num5 la ls) := fun e => by rw [va_up_ne _ _ nkK]; exact c1
      refine sg_Ck_groupsHold_24 X (fun _ _ _ _ _ _ h => h) (hw_rtz X hr hlk) ?_
      unfold vc_Ck_groupsHold_24
      have no : ∀ (kn2 : Int32) (pl2 : Nat), pl2 ≤ k0 → ((0 ≤ 0 ∧ 0 ≤ 0) ∧ hw_b (0 : Int32) ∧ ∃ (kn' : Int32) (pl' : Nat), pl' ≤ k0 ∧ va_up w K0 (some (ck_o P L kn2 pl2)) = va_up w K0 (some (ck_o P L kn' pl'))) := fun kn2 pl2 h2 => ⟨hw_00, Or.inl rfl, kn2, pl2, h2, rfl⟩
      refine ⟨_, ⟨_, (va_up_self _ _ _), rfl⟩, _, ⟨_, hP1 _, rfl⟩, fun h => absurd h (nI_ge (by omega) (by omega)), fun _ => ⟨_, ⟨_, (va_up_self _ _ _), rfl⟩, _, ⟨_, hP1 _, rfl⟩, kc, ⟨_, _, hA1 _, vp_in_nI (by omega) (by omega), (by rw [nI_clamp (by omega)]; exact hc)⟩, _, ⟨_, c1' _, rfl⟩, fun _ => ⟨_, ⟨_, (va_up_self _ _ _), rfl⟩, _, ⟨_, (va_up_self _ _ _), rfl⟩, _, ⟨_, hL1 _, rfl⟩, fun _ => no _ _ hp1, fun hlt => ?_⟩, fun _ => (by rw [nI_1]; exact ih (i + 1) pl1 kn1 x1 x2 (by omega) hp1)⟩⟩
      have hlt' : pl1 < k0 := by
        rw [nI_leI (by omega) (by omega)] at hlt
        omega
      refine ⟨_, ⟨_, (va_up_self _ _ _), rfl⟩, _, ⟨_, hL1 _, rfl⟩, _, ⟨_, (va_up_self _ _ _), rfl⟩, _, ⟨_, _, hN1 _, vp_in_nI (by omega) (by omega), rfl⟩, _, ⟨_, c1' _, rfl⟩, fun _ => ⟨_, ⟨_, (va_up_self _ _ _), rfl⟩, _, ⟨_, (va_up_self _ _ _), Nat.le_of_ble_eq_true rfl, rfl⟩, _, ⟨_, (by rw [bx_uu]; exact c1' _), rfl⟩, fun y21 _ => hw_ci_0 (by decide) (by decide) (ct_Co_opposites l g _) (Nat.zero_le _) (Nat.zero_le _) ?_⟩, fun _ => no _ _ hp1⟩
      rintro r w2 ⟨rfl, rfl⟩
      refine ⟨_, ⟨_, (va_up_self _ _ _), Nat.le_of_ble_eq_true rfl, rfl⟩, _, ⟨_, (va_up_self _ _ _), rfl⟩, ?_⟩
      rw [bx_uu, bx_uu, nI_1]
      refine ⟨fun _ => ⟨hw_o_of (va_up_self _ _ _) rfl rfl, hw_cv_0 (by decide) (by decide) (ct_Ck_skipHints (P := P) (L := L) (pl := pl1 + 1) (kn := x2 ||| cx_op y21) l g _ (hL1 _) hk0 (hN1 _) (va_up_self _ _ _) hlt') (Nat.zero_le _) (Nat.zero_le _) ?_⟩, fun _ => ⟨hw_o_of (va_up_self _ _ _) rfl rfl, hw_ci_0 (by decide) (by decide) (ct_Ck_followHints (P := P) (L := L) (pl := pl1 + 1) (kn := x2 ||| cx_op y21) l g _ (hP1 _) hps (hA1 _) (hc1 _) (hL1 _) hk0 (hN1 _) (va_up_self _ _ _) hlt') (Nat.zero_le _) (Nat.zero_le _) ?_⟩⟩
      · rintro w3 ⟨kn3, pl3, hp3, rfl⟩
        rw [bx_uu, nI_1]
        exact ih (i + 1) pl3 kn3 x1 x2 (by omega) hp3
      · rintro r w3 ⟨kn3, pl3, hp3, rfl⟩
        rw [bx_uu]
        refine ⟨fun _ => ⟨hw_o_of (va_up_self _ _ _) rfl rfl, hw_cv_0 (by decide) (by decide) (ct_Ck_skipHints (P := P) (L := L) (pl := pl3) (kn := kn3) l g _ (hL1 _) hk0 (hN1 _) (va_up_self _ _ _) hp3) (Nat.zero_le _) (Nat.zero_le _) ?_⟩, fun _ => no _ _ hp3⟩
        rintro w4 ⟨kn4, pl4, hp4, rfl⟩
        rw [bx_uu, nI_1]
        exact ih (i + 1) pl4 kn4 x1 x2 (by omega) hp4
  obtain ⟨num5, ls, la, f, c1, c2, c3⟩ := hlc
  refine ⟨_, ⟨_, hK, rfl⟩, _, ⟨_, hL, rfl⟩, _, ⟨_, c1, rfl⟩, _, ⟨_, _, c2, (show vp_in (nI 0) 6 from vp_in_nI (by decide) (by decide)), rfl⟩, hw_ci_0 (by decide) (by decide) (ct_Co_bit l g _) (Nat.zero_le _) (Nat.zero_le _) ?_⟩
  rintro r w2 ⟨rfl, rfl⟩
  refine ⟨_, ⟨_, hK, rfl⟩, ?_⟩
  have := fun x1 => L1 ps 0 pl kn x1 kn (by omega) hpl
  rw [hw_id hK] at this
  exact this _
set_option maxHeartbeats 4000000 in
set_option maxRecDepth 100000 in
theorem ct_Ck_outcome (l : Launch) (g : hw_G) (w : hw_H) {P PA ps : Nat} {ph pe : Int32} {h : Nat → Option Nat} {L na k0 lc : Nat} {num : Int32} {fn : Nat → Int32} {K0 pl : Nat} {kn : Int32} (hP : w P = some (pr_o PA ps ph pe)) (hps : ps ≤ 40) (hPA : w PA = some (ar_q g 40 h)) (hcs : pr_ar g w h ps) (hL : w L = some (li_o num (some lc) na k0)) (hk0 : k0 ≤ 12) (hN : w na = some (ar_i g 12 fn)) (hlc : cl_s g w lc) (hK : w K0 = some (ck_o P L kn pl)) (hpl : pl ≤ k0) : hw_Mi l g ym_Ck_outcome mw_Ck_outcome (hw_R 5 0 0) [.ref K0] w (fun r w' => ∃ (kn' : Int32) (pl' : Nat), pl' ≤ k0 ∧ w' = va_up w K0 (some (ck_o P L kn' pl'))) := by
  refine hw_enteri (r := 2) rfl rfl (by simp [Value.category]) (Nat.le_of_ble_eq_true rfl) ?_
  intro p e s m args below meth c A X hr hlk hnm
  refine sg_Ck_outcome_0 X (fun _ _ _ _ _ _ h => h) (hw_rti X hr hlk) ?_
  unfold vc_Ck_outcome_0
  have nLK : L ≠ K0 := by rintro rfl; rw [hL] at hK; cases hK
  have nNK : na ≠ K0 := by rintro rfl; rw [hN] at hK; cases hK
  have hL1 : ∀ e, (va_up w K0 e) L = some (li_o num (some lc) na k0) := fun e => by rw [va_up_ne _ _ nLK]; exact hL
  have hN1 : ∀ e, (va_up w K0 e) na = some (ar_i g 12 fn) := fun e => by rw [va_up_ne _ _ nNK]; exact hN
  have nPK : P ≠ K0 := by rintro rfl; rw [hP] at hK; cases hK
  have nAK : PA ≠ K0 := by rintro rfl; rw [hPA] at hK; cases hK
  have hP1 : ∀ e, (va_up w K0 e) P = some (pr_o PA ps ph pe) := fun e => by rw [va_up_ne _ _ nPK]; exact hP
  have hA1 : ∀ e, (va_up w K0 e) PA = some (ar_q g 40 h) := fun e => by rw [va_up_ne _ _ nAK]; exact hPA
  have hc1 : ∀ e, pr_ar g (va_up w K0 e) h ps := fun e => pr_ar_u e hcs hK (by decide : (7 : Nat) ≠ 5)
  have hs1 : ∀ e, cl_s g (va_up w K0 e) lc := fun e => cl_s_u e hlc hK (by decide : (7 : Nat) ≠ 5)
  have nkK : lc ≠ K0 := by
    rintro rfl
    obtain ⟨fs, z⟩ := cl_s_o hlc
    rw [hK] at z; cases z
  obtain ⟨num5, ls, la, f, c1, c2, c3⟩ := hlc
  have c1' : ∀ e, (va_up w K0 e) lc = some (cl_o num5 la ls) := fun e => by rw [va_up_ne _ _ nkK]; exact c1
  refine ⟨_, ⟨_, hK, rfl⟩, _, ⟨_, hL, rfl⟩, _, ⟨_, c1, rfl⟩, hw_ci_0 (by decide) (by decide) (ct_Co_opposites l g _) (Nat.zero_le _) (Nat.zero_le _) ?_⟩
  rintro r w2 ⟨rfl, rfl⟩
  refine ⟨_, ⟨_, hK, Nat.le_of_ble_eq_true rfl, rfl⟩, _, ⟨_, (va_up_self _ _ _), rfl⟩, fun _ => ⟨hw_o_of (va_up_self _ _ _) rfl rfl, hw_ci_0 (by decide) (by decide) (ct_Ck_followHints (P := P) (L := L) (pl := pl) (kn := cx_op (cl_mask ls)) l g _ (hP1 _) hps (hA1 _) (hc1 _) (hL1 _) hk0 (hN1 _) (va_up_self _ _ _) hpl) (Nat.zero_le _) (Nat.zero_le _) ?_⟩, fun _ => ⟨hw_00, _, pl, hpl, rfl⟩⟩
  rintro r w3 ⟨kn3, pl3, hp3, rfl⟩
  rw [bx_uu]
  refine ⟨fun _ => ⟨fun _ => ⟨_, ⟨_, (va_up_self _ _ _), rfl⟩, hw_00, kn3, pl3, hp3, rfl⟩, fun _ => ⟨_, ⟨_, (va_up_self _ _ _), rfl⟩, _, ⟨_, hL1 _, rfl⟩, _, ⟨_, c1' _, rfl⟩, fun _ => ⟨_, ⟨_, (va_up_self _ _ _), rfl⟩, hw_00, kn3, pl3, hp3, rfl⟩, fun _ => ⟨hw_o_of (va_up_self _ _ _) rfl rfl, hw_ci_0 (by decide) (by decide) (ct_Ck_groupsHold (P := P) (L := L) (pl := pl3) (kn := kn3) l g _ (hP1 _) hps (hA1 _) (hc1 _) (hL1 _) hk0 (hN1 _) (hs1 _) (va_up_self _ _ _) hp3) (Nat.zero_le _) (Nat.zero_le _) ?_⟩⟩⟩, fun _ => ⟨hw_00, kn3, pl3, hp3, rfl⟩⟩
  rintro r w4 ⟨kn4, pl4, hp4, rfl⟩
  rw [bx_uu]
  exact ⟨fun _ => ⟨_, ⟨_, (va_up_self _ _ _), rfl⟩, hw_00, kn4, pl4, hp4, rfl⟩, fun _ => ⟨hw_00, kn4, pl4, hp4, rfl⟩⟩
set_option maxHeartbeats 4000000 in
set_option maxRecDepth 100000 in
theorem ct_Pr_add (l : Launch) (g : hw_G) (w : hw_H) {P PA ps : Nat} {ph pe : Int32} {h : Nat → Option Nat} {L na k0 lc : Nat} {num : Int32} {fn : Nat → Int32} (hP : w P = some (pr_o PA ps ph pe)) (hps : ps ≤ 40) (hPA : w PA = some (ar_q g 40 h)) (hcs : pr_ar g w h ps) (hpe : hw_b pe) (hL : w L = some (li_o num (some lc) na k0)) (hk0 : k0 ≤ 12) (hN : w na = some (ar_i g 12 fn)) (hlc : cl_s g w lc) : hw_Mi l g ym_Pr_add mw_Pr_add (hw_R 6 1 4) [.ref P, .ref L] w (fun r w' => ∃ (ps' : Nat) (ph' pe' : Int32) (h' : Nat → Option Nat), ps' ≤ 40 ∧ hw_b pe' ∧ w' P = some (pr_o PA ps' ph' pe') ∧ w' PA = some (ar_q g 40 h') ∧ pr_ar g w' h' ps' ∧ ∀ y, w y ≠ none → y ≠ P → y ≠ PA → w' y = w y) := by
  refine hw_enteri (r := 1) rfl rfl (by simp [Value.category]) (Nat.le_of_ble_eq_true rfl) ?_
  intro p e s m args below meth c A X hr hlk hnm
  refine sg_Pr_add_0 X (fun _ _ _ _ _ _ h => h) (hw_rti X hr hlk) ?_
  unfold vc_Pr_add_0
  have nPA : P ≠ PA := by rintro rfl; rw [hP] at hPA; cases hPA
  have nLP : L ≠ P := by rintro rfl; rw [hL] at hP; cases hP
  have nLA : L ≠ PA := by rintro rfl; rw [hL] at hPA; cases hPA
  have no : ∀ (k n : Nat) (x : Int32), k ≤ 1 → n ≤ 4 → ((k ≤ 1 ∧ n ≤ 4) ∧ (fun r w' => ∃ (ps' : Nat) (ph' pe' : Int32) (h' : Nat → Option Nat), ps' ≤ 40 ∧ hw_b pe' ∧ w' P = some (pr_o PA ps' ph' pe') ∧ w' PA = some (ar_q g 40 h') ∧ pr_ar g w' h' ps' ∧ ∀ y, w y ≠ none → y ≠ P → y ≠ PA → w' y = w y) x w) := fun k n x hk hn => ⟨⟨hk, hn⟩, ps, ph, pe, h, hps, hpe, hP, hPA, hcs, fun y _ _ _ => rfl⟩
  refine ⟨_, ⟨_, hL, rfl⟩, _, ⟨_, hP, rfl⟩, fun _ => no _ _ (-2000) (Nat.le_of_ble_eq_true rfl) (Nat.le_of_ble_eq_true rfl), fun _ => ⟨_, ⟨_, hP, rfl⟩, fun h40 => ⟨⟨Nat.le_of_ble_eq_true rfl, Nat.le_of_ble_eq_true rfl⟩, fun K0 w5 hqK e5 => ?_⟩, fun _ => no _ _ (-2000) (Nat.le_of_ble_eq_true rfl) (Nat.le_of_ble_eq_true rfl)⟩⟩
  subst e5
  have h40' : ps < 40 := (nI_ltI (b := 40) (by omega) (by omega)).mp h40
  have nPK : P ≠ K0 := hw_nn hP hqK
  have nAK : PA ≠ K0 := hw_nn hPA hqK
  have nLK : L ≠ K0 := hw_nn hL hqK
  have nNK : na ≠ K0 := hw_nn hN hqK
  have hP1 : ∀ e, (va_up w K0 e) P = some (pr_o PA ps ph pe) := fun e => by rw [va_up_ne _ _ nPK]; exact hP
  have hA1 : ∀ e, (va_up w K0 e) PA = some (ar_q g 40 h) := fun e => by rw [va_up_ne _ _ nAK]; exact hPA
  have hL1 : ∀ e, (va_up w K0 e) L = some (li_o num (some lc) na k0) := fun e => by rw [va_up_ne _ _ nLK]; exact hL
  have hN1 : ∀ e, (va_up w K0 e) na = some (ar_i g 12 fn) := fun e => by rw [va_up_ne _ _ nNK]; exact hN
  have ks : ∀ e c, cl_s g w c → cl_s g (va_up w K0 e) c := fun e c hc => cl_s_k (S := fun y => y = K0) hc (fun _ _ hy => va_up_ne _ _ hy) (fun y e1 he hy => by subst hy; rw [hqK] at he; cases he)
  have hc1 : ∀ e, pr_ar g (va_up w K0 e) h ps := fun e i hi => by
    obtain ⟨c, h1, h2⟩ := hcs i hi
    exact ⟨c, h1, ks e c h2⟩
  refine hw_cv_0 (by decide) (by decide) (ct_Ck_init (P := P) (L := L) l g _ (va_up_self _ _ _)) (Nat.le_of_ble_eq_true rfl) (Nat.le_of_ble_eq_true rfl) ?_
  rintro w6 rfl
  rw [bx_uu]
  refine ⟨hw_o_of (va_up_self _ _ _) rfl rfl, hw_ci_0 (by decide) (by decide) (ct_Ck_outcome (P := P) (L := L) (pl := 0) (kn := 0) l g _ (hP1 _) hps (hA1 _) (hc1 _) (hL1 _) hk0 (hN1 _) (ks _ _ hlc) (va_up_self _ _ _) (Nat.zero_le _)) (Nat.le_of_ble_eq_true rfl) (Nat.le_of_ble_eq_true rfl) ?_⟩
  rintro r w7 ⟨kn7, pl7, hp7, rfl⟩
  rw [bx_uu]
  have hs7 := ks (some (ck_o P L kn7 pl7)) lc hlc
  have hc7 := hc1 (some (ck_o P L kn7 pl7))
  have kp7 : ∀ y, w y ≠ none → (va_up w K0 (some (ck_o P L kn7 pl7))) y = w y := fun y hy => va_up_ne _ _ (by rintro rfl; exact hy hqK)
  have aP := hP1 (some (ck_o P L kn7 pl7))
  have aA := hA1 (some (ck_o P L kn7 pl7))
  have aL := hL1 (some (ck_o P L kn7 pl7))
  generalize va_up w K0 (some (ck_o P L kn7 pl7)) = w8 at hs7 hc7 kp7 aP aA aL ⊢
  refine ⟨fun _ => ?_, fun _ => ⟨⟨Nat.le_of_ble_eq_true rfl, Nat.le_of_ble_eq_true rfl⟩, ps, ph, pe, h, hps, hpe, aP, aA, hc7, fun y hy _ _ => kp7 y hy⟩⟩
  have bP : ∀ e, (va_up w8 PA e) P = some (pr_o PA ps ph pe) := fun e => by rw [va_up_ne _ _ nPA]; exact aP
  have bL : ∀ e e2, (va_up (va_up w8 PA e) P e2) L = some (li_o num (some lc) na k0) := fun e e2 => by rw [va_up_ne _ _ nLP, va_up_ne _ _ nLA]; exact aL
  have bs : ∀ e e2, cl_s g (va_up (va_up w8 PA e) P e2) lc := fun e e2 => cl_s_u e2 (cl_s_u e hs7 aA (by decide : (40 : Nat) ≠ 6)) (bP e) (by decide : (1 : Nat) ≠ 5)
  have fin : ∀ (x pe1 : Int32), hw_b pe1 → (((0 + 1 ≤ 1) ∧ (0 + 4 ≤ 4)) ∧ (fun r w' => ∃ (ps' : Nat) (ph' pe' : Int32) (h' : Nat → Option Nat), ps' ≤ 40 ∧ hw_b pe' ∧ w' P = some (pr_o PA ps' ph' pe') ∧ w' PA = some (ar_q g 40 h') ∧ pr_ar g w' h' ps' ∧ ∀ y, w y ≠ none → y ≠ P → y ≠ PA → w' y = w y) x (va_up (va_up w8 PA (some (ar_q g 40 (va_up h ps (some lc))))) P (some (pr_o PA (ps + 1) num pe1)))) := by
    intro x pe1 hb
    refine ⟨⟨Nat.le_of_ble_eq_true rfl, Nat.le_of_ble_eq_true rfl⟩, ps + 1, num, pe1, va_up h ps (some lc), h40', hb, (va_up_self _ _ _), ?_, ?_, ?_⟩
    · rw [va_up_ne _ _ nPA.symm]; exact (va_up_self _ _ _)
    · intro i hi
      by_cases hip : i = ps
      · subst hip; exact ⟨lc, va_up_self _ _ _, bs _ _⟩
      · rw [va_up_ne _ _ hip]
        obtain ⟨c9, h1, h2⟩ := hc7 i (by omega)
        exact ⟨c9, h1, cl_s_u _ (cl_s_u _ h2 aA (by decide : (40 : Nat) ≠ 6)) (bP _) (by decide : (1 : Nat) ≠ 5)⟩
    · intro y hy yP yA
      rw [va_up_ne _ _ yP, va_up_ne _ _ yA]
      exact kp7 y hy
  refine ⟨_, ⟨_, aP, rfl⟩, _, ⟨_, aP, rfl⟩, _, ⟨_, aL, rfl⟩, _, ⟨cl_s_o hs7, _, _, aA, vp_in_nI (by omega) (by omega), rfl⟩, ?_⟩
  rw [nI_clamp (by omega)]
  refine ⟨_, ⟨_, bP _, rfl⟩, _, ⟨_, bP _, Nat.le_of_ble_eq_true rfl, rfl⟩, _, ⟨_, bL _ _, rfl⟩, _, ⟨_, (va_up_self _ _ _), Nat.le_of_ble_eq_true rfl, rfl⟩, ?_⟩
  rw [bx_uu, nI_1]
  refine ⟨_, ⟨_, (va_up_self _ _ _), rfl⟩, fun _ => ⟨_, ⟨_, (va_up_self _ _ _), Nat.le_of_ble_eq_true rfl, rfl⟩, Or.inr rfl, ?_⟩, fun _ => ?_⟩
  · rw [bx_uu]; exact fin 1 _ (Or.inr rfl)
  · have hz := bs (some (ar_q g 40 (va_up h ps (some lc)))) (some (pr_o PA (ps + 1) num pe))
    obtain ⟨num5, ls, la, f, c1, c2, c3⟩ := hz
    refine ⟨_, ⟨_, bL _ _, rfl⟩, _, ⟨_, c1, rfl⟩, fun _ => ⟨_, ⟨_, (va_up_self _ _ _), Nat.le_of_ble_eq_true rfl, rfl⟩, Or.inl rfl, ?_⟩, fun _ => ⟨_, ⟨_, (va_up_self _ _ _), Nat.le_of_ble_eq_true rfl, rfl⟩, Or.inr rfl, ?_⟩⟩
    · rw [bx_uu]; exact fin 1 _ (Or.inl rfl)
    · rw [bx_uu]; exact fin 1 _ (Or.inr rfl)
