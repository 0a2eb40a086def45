def cx_op (x : Int32) : Int32 := ((x <<< ((10 : Int32) &&& 31)) ||| (x >>> ((10 : Int32) &&& 31))) &&& (1048575 : Int32)
def cx_1 (x : Int32) : Int32 := x - (((x).toUInt32 >>> (((1 : Int32)).toUInt32 &&& Int32.toUInt32 31)).toInt32 &&& (1431655765 : Int32))
def cx_2 (x : Int32) : Int32 := (x &&& (858993459 : Int32)) + (((x).toUInt32 >>> (((2 : Int32)).toUInt32 &&& Int32.toUInt32 31)).toInt32 &&& (858993459 : Int32))
def cx_3 (x : Int32) : Int32 := (x + ((x).toUInt32 >>> (((4 : Int32)).toUInt32 &&& Int32.toUInt32 31)).toInt32) &&& (252645135 : Int32)
def cx_4 (x : Int32) : Int32 := x + ((x).toUInt32 >>> (((8 : Int32)).toUInt32 &&& Int32.toUInt32 31)).toInt32
def cx_5 (x : Int32) : Int32 := x + ((x).toUInt32 >>> (((16 : Int32)).toUInt32 &&& Int32.toUInt32 31)).toInt32
/-- how many bits -/
def cx_bc (x : Int32) : Int32 := cx_5 (cx_4 (cx_3 (cx_2 (cx_1 x)))) &&& (63 : Int32)
def cx_un (a b : Int32) : Int32 := a &&& (cx_op b ^^^ (-1 : Int32))
def cx_fo (a b : Int32) : Int32 := if cx_un a b = 0 then -1 else if cx_bc (cx_un a b) = 1 ∧ (cx_un a b &&& b) = 0 then b ||| cx_un a b else -2
set_option maxHeartbeats 4000000 in
set_option maxRecDepth 100000 in
theorem ct_Co_opposites (l : Launch) (g : hw_G) (w : hw_H) {x : Int32}  : hw_Mi l g ym_Co_opposites mw_Co_opposites (hw_R 1 0 0) [.int x] w (fun r w' => r = cx_op x ∧ w' = w) := by
  refine hw_enteri (r := 0) rfl rfl (by simp [Value.category]) (Nat.le_of_ble_eq_true rfl) ?_
  intro p e s m args below meth c A X hr hlk hnm
  refine sg_Co_opposites_0 X (fun _ _ _ _ _ _ h => h) (hw_rti X hr hlk) ?_
  unfold vc_Co_opposites_0
  exact ⟨hw_00, rfl, rfl⟩
set_option maxHeartbeats 4000000 in
set_option maxRecDepth 100000 in
theorem ct_In_bitCount (l : Launch) (g : hw_G) (w : hw_H) {x : Int32}  : hw_Mi l g ym_In_bitCount mw_In_bitCount (hw_R 1 0 0) [.int x] w (fun r w' => r = cx_bc x ∧ w' = w) := by
  refine hw_enteri (r := 0) rfl rfl (by simp [Value.category]) (Nat.le_of_ble_eq_true rfl) ?_
  intro p e s m args below meth c A X hr hlk hnm
  refine sg_In_bitCount_0 X (fun _ _ _ _ _ _ h => h) (hw_rti X hr hlk) ?_
  unfold vc_In_bitCount_0
  rintro _ rfl _ rfl _ rfl _ rfl _ rfl
  exact ⟨hw_00, rfl, rfl⟩
set_option maxHeartbeats 4000000 in
set_option maxRecDepth 100000 in
theorem ct_Co_follow (l : Launch) (g : hw_G) (w : hw_H) {a b : Int32}  : hw_Mi l g ym_Co_follow mw_Co_follow (hw_R 2 0 0) [.int a, .int b] w (fun r w' => r = cx_fo a b ∧ w' = w) := by
  refine hw_enteri (r := 1) rfl rfl (by simp [Value.category]) (Nat.le_of_ble_eq_true rfl) ?_
  intro p e s m args below meth c A X hr hlk hnm
  refine sg_Co_follow_0 X (fun _ _ _ _ _ _ h => h) (hw_rti X hr hlk) ?_
  unfold vc_Co_follow_0
  refine hw_ci_0 (by decide) (by decide) (ct_Co_opposites l g w) (Nat.zero_le _) (Nat.zero_le _) ?_
  rintro r w1 ⟨rfl, rfl⟩
  intro y hy
  have hy : y = cx_un a b := hy
  refine ⟨fun h => hw_ci_0 (by decide) (by decide) (ct_In_bitCount l g w1) (Nat.zero_le _) (Nat.zero_le _) ?_, fun h => ⟨hw_00, ?_, rfl⟩⟩
  · rintro r w2 ⟨rfl, rfl⟩
    refine ⟨fun h2 => ⟨hw_00, ?_, rfl⟩, fun h2 => ⟨fun h3 => ⟨hw_00, ?_, rfl⟩, fun h3 => ⟨hw_00, ?_, rfl⟩⟩⟩
    · unfold cx_fo; rw [← hy, if_neg h, if_neg (fun z => h2 z.1)]
    · unfold cx_fo; rw [← hy, if_neg h, if_neg (fun z => h3 z.2)]
    · unfold cx_fo; rw [← hy, if_neg h, if_pos ⟨h2, h3⟩]
  · unfold cx_fo; rw [← hy, if_pos h]
abbrev pr_o (PA ps : Nat) (ph pe : Int32) : va_E := .inr (1, [.ref PA, .int (nI ps), .int ph, .int pe])
def pr_ar (g : hw_G) (w : hw_H) (h : Nat → Option Nat) (ps : Nat) : Prop := ∀ i, i < ps → ∃ c : Nat, h i = some c ∧ cl_s g w c
theorem cl_s_u {g : hw_G} {w : hw_H} {c a : Nat} {e0 : va_E} (e : Option va_E) (h : cl_s g w c) (ha : w a = some e0) (hn : cl_no e0) : cl_s g (va_up w a e) c := cl_s_k (S := fun y => y = a) h (fun _ _ hy => va_up_ne _ _ hy) (fun y e1 he hy => by subst hy; rw [ha] at he; cases he; exact hn)
theorem pr_ar_u {g : hw_G} {w : hw_H} {h : Nat → Option Nat} {ps a : Nat} {e0 : va_E} (e : Option va_E) (H : pr_ar g w h ps) (ha : w a = some e0) (hn : cl_no e0) : pr_ar g (va_up w a e) h ps := fun i hi => by
  obtain ⟨c, h1, h2⟩ := H i hi
  exact ⟨c, h1, cl_s_u e h2 ha hn⟩
theorem cl_s_o {g : hw_G} {w : hw_H} {c : Nat} (h : cl_s g w c) : ∃ fs : List Value, w c = some (.inr (5, fs)) := by
  obtain ⟨num, ls, la, f, h1, -⟩ := h
  exact ⟨_, h1⟩
theorem hw_id {w : hw_H} {a : Nat} {e : Option va_E} (h : w a = e) : va_up w a e = w := funext fun y => by
  by_cases hy : y = a
  · subst hy; rw [va_up_self, h]
  · rw [va_up_ne _ _ hy]
set_option maxHeartbeats 4000000 in
set_option maxRecDepth 100000 in
theorem ct_Pr_find (l : Launch) (g : hw_G) (w : hw_H) {P PA ps : Nat} {ph pe : Int32} {h : Nat → Option Nat} {x : Int32} (hP : w P = some (pr_o PA ps ph pe)) (hps : ps ≤ 40) (hPA : w PA = some (ar_q g 40 h)) (hcs : pr_ar g w h ps) : hw_Mq l g ym_Pr_find mw_Pr_find (hw_R 1 0 0) [.ref P, .int x] w (fun o w' => w' = w ∧ ∀ c : Nat, o = some c → cl_s g w c) := by
  refine hw_enterq (r := 1) rfl rfl (by simp [Value.category]) (Nat.le_of_ble_eq_true rfl) ?_
  intro p e s m args below meth c A X hr hlk hnm
  refine sg_Pr_find_0 X (fun _ _ _ _ _ _ h => h) (hw_rtq X hr hlk) ?_
  unfold vc_Pr_find_0
  have L1 : ∀ (d i : Nat), i + d = ps → hw_Jq p l e (hw_R 1 0 0) s m args below meth c 3 g A (fun o w' => w' = w ∧ ∀ c : Nat, o = some c → cl_s g w c) 0 0 2 [some (.ref P), some (.int x), some (.int (nI i))] [] w := by
    intro d
    induction d with
    | zero =>
      intro i hi
      have hi2 : i = ps := by omega
      subst hi2
      refine sg_Pr_find_2 X (fun _ _ _ _ _ _ h => h) (hw_rtq X hr hlk) ?_
      unfold vc_Pr_find_2
      exact ⟨_, ⟨_, hP, rfl⟩, fun _ => ⟨hw_00, rfl, fun c z => (by cases z)⟩, fun h => absurd (Int32.le_refl _) h⟩
    | succ d ih =>
      intro i hi
      obtain ⟨kc, hc, hs⟩ := hcs i (by omega)
      have hs0 := hs
      obtain ⟨num, ls, la, f, c1, c2, c3⟩ := hs
      refine sg_Pr_find_2 X (fun _ _ _ _ _ _ h => h) (hw_rtq X hr hlk) ?_
      unfold vc_Pr_find_2
      refine ⟨_, ⟨_, hP, rfl⟩, fun h => absurd h (nI_ge (by omega) (by omega)), fun _ => ⟨_, ⟨_, hP, rfl⟩, kc, ⟨_, _, hPA, vp_in_nI (by omega) (by omega), (by rw [nI_clamp (by omega)]; exact hc)⟩, _, ⟨_, c1, rfl⟩, fun _ => (by rw [nI_1]; exact ih (i + 1) (by omega)), fun _ => ⟨_, ⟨_, hP, rfl⟩, kc, ⟨_, _, hPA, vp_in_nI (by omega) (by omega), (by rw [nI_clamp (by omega)]; exact hc)⟩, hw_00, rfl, fun c z => (by cases z; exact hs0)⟩⟩⟩
  exact L1 ps 0 (by omega)
set_option maxHeartbeats 4000000 in
set_option maxRecDepth 100000 in
theorem ct_Pr_begin (l : Launch) (g : hw_G) (w : hw_H) {P PA F fa n0 : Nat} {a b c0 v cnt : Int32} {h hf : Nat → Option Nat} (hP : w P = some (.inr (1, [.ref PA, .int a, .int b, .int c0]))) (hPA : w PA = some (ar_q g 40 h)) (hF : w F = some (fg_o v fa n0 cnt)) (hn : n0 ≤ 24) (hfa : w fa = some (ar_q g 24 hf)) (hcs : pr_ar g w hf n0) : hw_Mv l g ym_Pr_begin mw_Pr_begin (hw_R 1 0 0) [.ref P, .ref F] w (fun w' => ∃ h' : Nat → Option Nat, (∀ i, i < n0 → h' i = hf i) ∧ w' = va_up (va_up w PA (some (ar_q g 40 h'))) P (some (pr_o PA n0 (nI n0) 0))) := by
  refine hw_enterv (r := 1) rfl rfl (by simp [Value.category]) (Nat.le_of_ble_eq_true rfl) ?_
  intro p e s m args below meth c A X hr hlk hnm
  refine sg_Pr_begin_0 X (fun _ _ _ _ _ _ h => h) (hw_rtv X hr hlk) ?_
  unfold vc_Pr_begin_0
  have nPF : P ≠ F := by rintro rfl; rw [hP] at hF; cases hF
  have nPPA : P ≠ PA := by rintro rfl; rw [hP] at hPA; cases hPA
  have nFPA : F ≠ PA := by rintro rfl; rw [hF] at hPA; cases hPA
  have nfPA : fa ≠ PA := hw_an hfa hPA (by decide)
  have hP1 : ∀ e, (va_up w PA e) P = some (.inr (1, [.ref PA, .int a, .int b, .int c0])) := fun e => by rw [va_up_ne _ _ nPPA]; exact hP
  have hF1 : ∀ e, (va_up w PA e) F = some (fg_o v fa n0 cnt) := fun e => by rw [va_up_ne _ _ nFPA]; exact hF
  have hf1 : ∀ e, (va_up w PA e) fa = some (ar_q g 24 hf) := fun e => by rw [va_up_ne _ _ nfPA]; exact hfa
  have hF2 : ∀ e e2, (va_up (va_up w PA e) P e2) F = some (fg_o v fa n0 cnt) := fun e e2 => by rw [va_up_ne _ _ nPF.symm]; exact hF1 e
  have L1 : ∀ (d i : Nat) (h1 : Nat → Option Nat), i + d = n0 → (∀ j, j < i → h1 j = hf j) → hw_Jv p l e (hw_R 1 0 0) s m args below meth c 3 g A (fun w' => ∃ h' : Nat → Option Nat, (∀ i, i < n0 → h' i = hf i) ∧ w' = va_up (va_up w PA (some (ar_q g 40 h'))) P (some (pr_o PA n0 (nI n0) 0))) 0 0 2 [some (.ref P), some (.ref F), some (.int (nI i))] [] (va_up w PA (some (ar_q g 40 h1))) := by
    intro d
    induction d with
    | zero =>
      intro i h1 hi hj
      have hi2 : i = n0 := by omega
      subst hi2
      refine sg_Pr_begin_2 X (fun _ _ _ _ _ _ h => h) (hw_rtv X hr hlk) ?_
      unfold vc_Pr_begin_2
      refine ⟨_, ⟨_, hF1 _, rfl⟩, fun _ => ⟨_, ⟨_, hF1 _, rfl⟩, _, ⟨_, hP1 _, Nat.le_of_ble_eq_true rfl, rfl⟩, _, ⟨_, hF2 _ _, rfl⟩, _, ⟨_, (va_up_self _ _ _), Nat.le_of_ble_eq_true rfl, rfl⟩, _, ⟨_, (va_up_self _ _ _), Nat.le_of_ble_eq_true rfl, rfl⟩, Or.inl rfl, hw_00, h1, hj, ?_⟩, fun h => absurd (Int32.le_refl _) h⟩
      exact (bx_uu _ _ _ _).trans (bx_uu _ _ _ _)
    | succ d ih =>
      intro i h1 hi hj
      obtain ⟨kc, hc, hs⟩ := hcs i (by omega)
      refine sg_Pr_begin_2 X (fun _ _ _ _ _ _ h => h) (hw_rtv X hr hlk) ?_
      unfold vc_Pr_begin_2
      refine ⟨_, ⟨_, hF1 _, rfl⟩, fun h => absurd h (nI_ge (by omega) (by omega)), fun _ => ⟨_, ⟨_, hP1 _, rfl⟩, _, ⟨_, hF1 _, rfl⟩, kc, ⟨_, _, hf1 _, vp_in_nI (by omega) (by omega), (by rw [nI_clamp (by omega)]; exact hc)⟩, _, ⟨cl_s_o (cl_s_u _ hs hPA (by decide : (40 : Nat) ≠ 6)), _, _, (va_up_self _ _ _), vp_in_nI (by omega) (by omega), rfl⟩, ?_⟩⟩
      rw [bx_uu, nI_1, nI_clamp (by omega)]
      refine ih (i + 1) _ (by omega) (fun j hj2 => ?_)
      by_cases hji : j = i
      · subst hji; rw [va_up_self, hc]
      · rw [va_up_ne _ _ hji]; exact hj j (by omega)
  have := L1 n0 0 h (by omega) (fun j z => absurd z (Nat.not_lt_zero _))
  rw [hw_id hPA] at this
  exact this
set_option maxHeartbeats 4000000 in
set_option maxRecDepth 100000 in
theorem ct_Li_names (l : Launch) (g : hw_G) (w : hw_H) {L na k0 : Nat} {num : Int32} {oc : Option Nat} {fn : Nat → Int32} {x y : Int32} (hL : w L = some (li_o num oc na k0)) (hk0 : k0 ≤ 12) (hN : w na = some (ar_i g 12 fn)) : hw_Mi l g ym_Li_names mw_Li_names (hw_R 1 0 0) [.ref L, .int x, .int y] w (fun r w' => w' = w) := by
  refine hw_enteri (r := 1) rfl rfl (by simp [Value.category]) (Nat.le_of_ble_eq_true rfl) ?_
  intro p e s m args below meth c A X hr hlk hnm
  refine sg_Li_names_0 X (fun _ _ _ _ _ _ h => h) (hw_rtz X hr hlk) ?_
  unfold vc_Li_names_0
  have L1 : ∀ (d i : Nat), i + d = k0 → hw_Ji p l e (hw_R 1 0 0) s m args below meth c 4 g A (fun r w' => w' = w) 0 0 2 [some (.ref L), some (.int x), some (.int y), some (.int (nI i))] [] w := by
    intro d
    induction d with
    | zero =>
      intro i hi
      have hi2 : i = k0 := by omega
      subst hi2
      refine sg_Li_names_2 X (fun _ _ _ _ _ _ h => h) (hw_rtz X hr hlk) ?_
      unfold vc_Li_names_2
      exact ⟨fun _ => ⟨hw_00, Or.inl rfl, rfl⟩, fun _ => ⟨_, ⟨_, hL, rfl⟩, fun _ => ⟨hw_00, Or.inl rfl, rfl⟩, fun h => absurd (Int32.le_refl _) h⟩⟩
    | succ d ih =>
      intro i hi
      refine sg_Li_names_2 X (fun _ _ _ _ _ _ h => h) (hw_rtz X hr hlk) ?_
      unfold vc_Li_names_2
      exact ⟨fun _ => ⟨hw_00, Or.inl rfl, rfl⟩, fun _ => ⟨_, ⟨_, hL, rfl⟩, fun _ => ⟨hw_00, Or.inl rfl, rfl⟩, fun _ => ⟨_, ⟨_, hL, rfl⟩, _, ⟨_, _, hN, vp_in_nI (by omega) (by omega), rfl⟩, fun _ => (by rw [nI_1]; exact ih (i + 1) (by omega)), fun _ => ⟨hw_00, Or.inr rfl, rfl⟩⟩⟩⟩
  exact L1 k0 0 (by omega)
set_option maxHeartbeats 4000000 in
set_option maxRecDepth 100000 in
theorem ct_Pr_delete (l : Launch) (g : hw_G) (w : hw_H) {P PA ps : Nat} {ph pe : Int32} {h : Nat → Option Nat} {L na k0 : Nat} {num : Int32} {oc : Option Nat} {fn : Nat → Int32} (hP : w P = some (pr_o PA ps ph pe)) (hps : ps ≤ 40) (hPA : w PA = some (ar_q g 40 h)) (hcs : pr_ar g w h ps) (hL : w L = some (li_o num oc na k0)) (hk0 : k0 ≤ 12) (hN : w na = some (ar_i g 12 fn)) : hw_Mi l g ym_Pr_delete mw_Pr_delete (hw_R 2 0 0) [.ref P, .ref L] w (fun r w' => ∃ (ps' : Nat) (h' : Nat → Option Nat), ps' ≤ ps ∧ w' P = some (pr_o PA ps' ph pe) ∧ w' PA = some (ar_q g 40 h') ∧ pr_ar g w' h' ps' ∧ ∀ y, y ≠ P → y ≠ PA → w' y = w y) := by
  refine hw_enteri (r := 2) rfl rfl (by simp [Value.category]) (Nat.le_of_ble_eq_true rfl) ?_
  intro p e s m args below meth c A X hr hlk hnm
  refine sg_Pr_delete_0 X (fun _ _ _ _ _ _ h => h) (hw_rti X hr hlk) ?_
  unfold vc_Pr_delete_0
  have nPPA : P ≠ PA := by rintro rfl; rw [hP] at hPA; cases hPA
  have nLPA : L ≠ PA := by rintro rfl; rw [hL] at hPA; cases hPA
  have nNPA : na ≠ PA := hw_an hN hPA (by decide)
  have hP1 : ∀ e, (va_up w PA e) P = some (pr_o PA ps ph pe) := fun e => by rw [va_up_ne _ _ nPPA]; exact hP
  have hL1 : ∀ e, (va_up w PA e) L = some (li_o num oc na k0) := fun e => by rw [va_up_ne _ _ nLPA]; exact hL
  have hN1 : ∀ e, (va_up w PA e) na = some (ar_i g 12 fn) := fun e => by rw [va_up_ne _ _ nNPA]; exact hN
  have L2 : ∀ (d i kp : Nat) (h1 : Nat → Option Nat), i + d = ps → kp ≤ i → pr_ar g w h1 ps → hw_Ji p l e (hw_R 2 0 0) s m args below meth c 4 g A (fun r w' => ∃ (ps' : Nat) (h' : Nat → Option Nat), ps' ≤ ps ∧ w' P = some (pr_o PA ps' ph pe) ∧ w' PA = some (ar_q g 40 h') ∧ pr_ar g w' h' ps' ∧ ∀ y, y ≠ P → y ≠ PA → w' y = w y) 0 0 51 [some (.ref P), some (.ref L), some (.int (nI kp)), some (.int (nI i))] [] (va_up w PA (some (ar_q g 40 h1))) := by
    intro d
    induction d with
    | zero =>
      intro i kp h1 hi hkp har
      have hi2 : i = ps := by omega
      subst hi2
      refine sg_Pr_delete_51 X (fun _ _ _ _ _ _ h => h) (hw_rti X hr hlk) ?_
      unfold vc_Pr_delete_51
      refine ⟨_, ⟨_, hP1 _, rfl⟩, fun _ => ⟨_, ⟨_, hP1 _, Nat.le_of_ble_eq_true rfl, rfl⟩, hw_00, kp, h1, hkp, (va_up_self _ _ _), ?_, ?_, ?_⟩, fun h => absurd (Int32.le_refl _) h⟩
      · rw [va_up_ne _ _ nPPA.symm]; exact (va_up_self _ _ _)
      · have a1 : pr_ar g w h1 kp := fun j hj => har j (by omega)
        exact pr_ar_u _ (pr_ar_u _ a1 hPA (by decide : (40 : Nat) ≠ 6)) (hP1 _) (by decide : (1 : Nat) ≠ 5)
      · intro y y1 y2
        rw [va_up_ne _ _ y1, va_up_ne _ _ y2]
    | succ d ih =>
      intro i kp h1 hi hkp har
      obtain ⟨kc, hc, hs⟩ := har i (by omega)
      have hs1 := cl_s_u (some (ar_q g 40 h1)) hs hPA (by decide : (40 : Nat) ≠ 6)
      have hs2 := hs1
      obtain ⟨num5, ls, la, f, c1, c2, c3⟩ := hs1
      refine sg_Pr_delete_51 X (fun _ _ _ _ _ _ h => h) (hw_rti X hr hlk) ?_
      unfold vc_Pr_delete_51
      refine ⟨_, ⟨_, hP1 _, rfl⟩, fun h => absurd h (nI_ge (by omega) (by omega)), fun _ => ⟨_, ⟨_, hP1 _, rfl⟩, kc, ⟨_, _, (va_up_self _ _ _), vp_in_nI (by omega) (by omega), (by rw [nI_clamp (by omega)]; exact hc)⟩, _, ⟨_, c1, rfl⟩, _, ⟨_, hL1 _, rfl⟩, hw_o_of (hL1 _) rfl rfl, hw_ci_0 (by decide) (by decide) (ct_Li_names l g _ (hL1 _) hk0 (hN1 _)) (Nat.zero_le _) (Nat.zero_le _) ?_⟩⟩
      rintro r w2 rfl
      refine ⟨fun _ => ?_, fun _ => ⟨_, ⟨_, hP1 _, rfl⟩, _, ⟨_, hP1 _, rfl⟩, kc, ⟨_, _, (va_up_self _ _ _), vp_in_nI (by omega) (by omega), (by rw [nI_clamp (by omega)]; exact hc)⟩, _, ⟨cl_s_o hs2, _, _, (va_up_self _ _ _), vp_in_nI (by omega) (by omega), rfl⟩, ?_⟩⟩
      · rw [nI_1]
        exact ih (i + 1) kp h1 (by omega) (by omega) har
      · rw [bx_uu, nI_1, nI_1, nI_clamp (by omega)]
        refine ih (i + 1) (kp + 1) _ (by omega) (by omega) (fun j hj => ?_)
        by_cases hjk : j = kp
        · subst hjk; exact ⟨kc, va_up_self _ _ _, hs⟩
        · rw [va_up_ne _ _ hjk]; exact har j hj
  have no : ((0 ≤ 0 ∧ 0 ≤ 0) ∧ (fun r w' => ∃ (ps' : Nat) (h' : Nat → Option Nat), ps' ≤ ps ∧ w' P = some (pr_o PA ps' ph pe) ∧ w' PA = some (ar_q g 40 h') ∧ pr_ar g w' h' ps' ∧ ∀ y, y ≠ P → y ≠ PA → w' y = w y) (-2000) w) := ⟨hw_00, ps, h, Nat.le_refl _, hP, hPA, hcs, fun y _ _ => rfl⟩
  have L1 : ∀ (d i : Nat), i + d = k0 → hw_Ji p l e (hw_R 2 0 0) s m args below meth c 4 g A (fun r w' => ∃ (ps' : Nat) (h' : Nat → Option Nat), ps' ≤ ps ∧ w' P = some (pr_o PA ps' ph pe) ∧ w' PA = some (ar_q g 40 h') ∧ pr_ar g w' h' ps' ∧ ∀ y, y ≠ P → y ≠ PA → w' y = w y) 0 0 2 [some (.ref P), some (.ref L), some (.int (nI i)), none] [] w := by
    intro d
    induction d with
    | zero =>
      intro i hi
      have hi2 : i = k0 := by omega
      subst hi2
      refine sg_Pr_delete_2 X (fun _ _ _ _ _ _ h => h) (hw_rti X hr hlk) ?_
      unfold vc_Pr_delete_2
      refine ⟨_, ⟨_, hL, rfl⟩, fun _ => ?_, fun h => absurd (Int32.le_refl _) h⟩
      have := L2 ps 0 0 h (by omega) (Nat.le_refl _) hcs
      rw [hw_id hPA] at this
      exact this
    | succ d ih =>
      intro i hi
      refine sg_Pr_delete_2 X (fun _ _ _ _ _ _ h => h) (hw_rti X hr hlk) ?_
      unfold vc_Pr_delete_2
      have hin : vp_in (nI i) 12 := vp_in_nI (by omega) (by omega)
      refine ⟨_, ⟨_, hL, rfl⟩, fun h => absurd h (nI_ge (by omega) (by omega)), fun _ => ⟨_, ⟨_, hL, rfl⟩, _, ⟨_, _, hN, hin, rfl⟩, hw_o_of hP rfl rfl, hw_cq_0 (by decide) (by decide) (ct_Pr_find l g w hP hps hPA hcs) (Nat.zero_le _) (Nat.zero_le _) ?_⟩⟩
      rintro o w2 ⟨rfl, -⟩
      refine ⟨fun _ => no, fun q8 _ => ⟨_, ⟨_, hL, rfl⟩, _, ⟨_, _, hN, hin, rfl⟩, hw_o_of hL rfl rfl, hw_ci_0 (by decide) (by decide) (ct_Li_names l g _ hL hk0 hN) (Nat.zero_le _) (Nat.zero_le _) ?_⟩⟩
      rintro r w3 rfl
      exact ⟨fun _ => (by rw [nI_1]; exact ih (i + 1) (by omega)), fun _ => no⟩
  exact L1 k0 0 (by omega)
