def tx_run (Q : Int32 → Bool) (f : Nat → Int32) : Nat → Nat → Nat
  | 0, p => p
  | k + 1, p => if Q (f p) = true then tx_run Q f k (p + 1) else p
theorem tx_run_b (Q : Int32 → Bool) (f : Nat → Int32) : ∀ (k p : Nat), p ≤ tx_run Q f k p ∧ tx_run Q f k p ≤ p + k := by
  intro k
  induction k with
  | zero => intro p; exact ⟨Nat.le_refl _, Nat.le_refl _⟩
  | succ k ih =>
    intro p
    unfold tx_run
    split
    · have := ih (p + 1); omega
    · omega
theorem tx_run_s {Q : Int32 → Bool} {f : Nat → Int32} {len p : Nat} (h : p < len) : tx_run Q f (len - p) p = if Q (f p) = true then tx_run Q f (len - (p + 1)) (p + 1) else p := by
  rw [show len - p = (len - (p + 1)) + 1 by omega]
  rfl
theorem tx_run_e {Q : Int32 → Bool} {f : Nat → Int32} {len p : Nat} (h : len ≤ p) : tx_run Q f (len - p) p = p := by
  rw [show len - p = 0 by omega]
  rfl
def tx_nb (c : Int32) : Bool := !tx_bl c
def tx_nl (c : Int32) : Bool := !decide (c = 10)
def tx_sk (f : Nat → Int32) (len p : Nat) : Nat := tx_run tx_bl f (len - p) p
def tx_we (f : Nat → Int32) (len p : Nat) : Nat := tx_run tx_nb f (len - p) p
def tx_ln (f : Nat → Int32) (len p : Nat) : Nat := tx_run tx_nl f (len - p) p
theorem tx_sk_b {f : Nat → Int32} {len p : Nat} (h : p ≤ len) : p ≤ tx_sk f len p ∧ tx_sk f len p ≤ len := by
  have := tx_run_b tx_bl f (len - p) p
  unfold tx_sk
  omega
theorem tx_we_b {f : Nat → Int32} {len p : Nat} (h : p ≤ len) : p ≤ tx_we f len p ∧ tx_we f len p ≤ len := by
  have := tx_run_b tx_nb f (len - p) p
  unfold tx_we
  omega
theorem tx_ln_b {f : Nat → Int32} {len p : Nat} (h : p ≤ len) : p ≤ tx_ln f len p ∧ tx_ln f len p ≤ len := by
  have := tx_run_b tx_nl f (len - p) p
  unfold tx_ln
  omega
def tx_bg (f : Nat → Int32) : Nat → Bool
  | 0 => true
  | i + 1 => if f i = 32 then tx_bg f i else decide (f i = 10)
set_option maxHeartbeats 4000000 in
set_option maxRecDepth 100000 in
theorem ct_Te_standBehind (l : Launch) (g : hw_G) (w : hw_H) {T TC len : Nat} {sk st en nu : Int32} {f : Nat → Int32} {pl : Nat} (hT : w T = some (tx_o TC (nI len) sk st en nu)) (hC : w TC = some (.inl (g.2.1 1, 160, .inl f))) (hl : len ≤ 160) (hp : pl ≤ len) : hw_Mv l g ym_Te_standBehind mw_Te_standBehind (hw_R 2 0 0) [.ref T, .int (nI pl)] w (fun w' => w' = va_up w T (some (tx_o TC (nI len) sk (nI (tx_sk f len pl)) (nI (tx_we f len (tx_sk f len pl))) nu))) := by
  refine hw_enterv (r := 0) rfl rfl (by simp [Value.category]) (Nat.le_of_ble_eq_true rfl) ?_
  intro p e s m args below meth c A X hr hlk hnm
  refine sg_Te_standBehind_0 X (fun _ _ _ _ _ _ h => h) (hw_rtv X hr hlk) ?_
  unfold vc_Te_standBehind_0
  have hne : TC ≠ T := by rintro rfl; rw [hC] at hT; cases hT
  have hC1 : ∀ x, (va_up w T x) TC = some (.inl (g.2.1 1, 160, .inl f)) := fun x => by rw [va_up_ne _ _ hne]; exact hC
  generalize hS : tx_sk f len pl = S0
  generalize hE : tx_we f len S0 = E0
  have L2 : ∀ (d i : Nat), i + d = len → tx_run tx_nb f (len - i) i = E0 → hw_Jv p l e (hw_R 2 0 0) s m args below meth c 2 g A (fun w' => w' = va_up w T (some (tx_o TC (nI len) sk (nI S0) (nI E0) nu))) 0 0 52 [some (.ref T), some (.int (nI pl))] [] (va_up w T (some (tx_o TC (nI len) sk (nI S0) (nI i) nu))) := by
    intro d
    induction d with
    | zero =>
      intro i hi he
      have hi2 : i = len := by omega
      subst hi2
      rw [tx_run_e (Nat.le_refl _)] at he
      subst he
      refine sg_Te_standBehind_52 X (fun _ _ _ _ _ _ h => h) (hw_rtv X hr hlk) ?_
      unfold vc_Te_standBehind_52
      exact ⟨_, ⟨_, (va_up_self _ _ _), rfl⟩, _, ⟨_, (va_up_self _ _ _), rfl⟩, fun _ => ⟨hw_00, rfl⟩, fun h => absurd (Int32.le_refl _) h⟩
    | succ d ih =>
      intro i hi he
      rw [tx_run_s (by omega)] at he
      refine sg_Te_standBehind_52 X (fun _ _ _ _ _ _ h => h) (hw_rtv X hr hlk) ?_
      unfold vc_Te_standBehind_52
      refine ⟨_, ⟨_, (va_up_self _ _ _), rfl⟩, _, ⟨_, (va_up_self _ _ _), rfl⟩, fun h => absurd h (nI_ge (by omega) (by omega)), fun _ => ⟨_, ⟨_, (va_up_self _ _ _), rfl⟩, _, ⟨_, (va_up_self _ _ _), rfl⟩, _, ⟨_, _, hC1 _, vp_in_nI (by omega) (by omega), rfl⟩, hw_ci_0 (by decide) (by decide) (ct_Te_isBlank l g _ _) (Nat.zero_le _) (Nat.zero_le _) ?_⟩⟩
      rintro r w2 ⟨rfl, rfl⟩
      rw [nI_clamp (by omega)]
      refine ⟨fun h => ?_, fun h => ?_⟩
      · have hb := (hw_z_ne _).mp h
        rw [if_neg (by simp [tx_nb, hb])] at he
        subst he
        exact ⟨hw_00, rfl⟩
      · have hb := (hw_z_eq _).mp h
        rw [if_pos (by simp [tx_nb, hb])] at he
        refine ⟨_, ⟨_, (va_up_self _ _ _), rfl⟩, _, ⟨_, (va_up_self _ _ _), Nat.le_of_ble_eq_true rfl, rfl⟩, ?_⟩
        rw [bx_uu]
        have := ih (i + 1) (by omega) he
        rw [← nI_1] at this
        exact this
  have L1 : ∀ (d i : Nat) (en' : Int32), i + d = len → tx_run tx_bl f (len - i) i = S0 → hw_Jv p l e (hw_R 2 0 0) s m args below meth c 2 g A (fun w' => w' = va_up w T (some (tx_o TC (nI len) sk (nI S0) (nI E0) nu))) 0 0 5 [some (.ref T), some (.int (nI pl))] [] (va_up w T (some (tx_o TC (nI len) sk (nI i) en' nu))) := by
    intro d
    induction d with
    | zero =>
      intro i en' hi hs
      have hi2 : i = len := by omega
      subst hi2
      rw [tx_run_e (Nat.le_refl _)] at hs
      subst hs
      refine sg_Te_standBehind_5 X (fun _ _ _ _ _ _ h => h) (hw_rtv X hr hlk) ?_
      unfold vc_Te_standBehind_5
      refine ⟨_, ⟨_, (va_up_self _ _ _), rfl⟩, _, ⟨_, (va_up_self _ _ _), rfl⟩, fun _ => ⟨_, ⟨_, (va_up_self _ _ _), rfl⟩, _, ⟨_, (va_up_self _ _ _), Nat.le_of_ble_eq_true rfl, rfl⟩, ?_⟩, fun h => absurd (Int32.le_refl _) h⟩
      rw [bx_uu]
      exact L2 0 i rfl hE
    | succ d ih =>
      intro i en' hi hs
      have hs0 := hs
      rw [tx_run_s (by omega)] at hs
      refine sg_Te_standBehind_5 X (fun _ _ _ _ _ _ h => h) (hw_rtv X hr hlk) ?_
      unfold vc_Te_standBehind_5
      refine ⟨_, ⟨_, (va_up_self _ _ _), rfl⟩, _, ⟨_, (va_up_self _ _ _), rfl⟩, fun h => absurd h (nI_ge (by omega) (by omega)), fun _ => ⟨_, ⟨_, (va_up_self _ _ _), rfl⟩, _, ⟨_, (va_up_self _ _ _), rfl⟩, _, ⟨_, _, hC1 _, vp_in_nI (by omega) (by omega), rfl⟩, hw_ci_0 (by decide) (by decide) (ct_Te_isBlank l g _ _) (Nat.zero_le _) (Nat.zero_le _) ?_⟩⟩
      rintro r w2 ⟨rfl, rfl⟩
      rw [nI_clamp (by omega)]
      refine ⟨fun h => ⟨_, ⟨_, (va_up_self _ _ _), rfl⟩, _, ⟨_, (va_up_self _ _ _), Nat.le_of_ble_eq_true rfl, rfl⟩, ?_⟩, fun h => ⟨_, ⟨_, (va_up_self _ _ _), rfl⟩, _, ⟨_, (va_up_self _ _ _), Nat.le_of_ble_eq_true rfl, rfl⟩, ?_⟩⟩
      · have hb := (hw_z_eq _).mp h
        rw [if_neg (by simp [hb])] at hs
        subst hs
        rw [bx_uu]
        exact L2 (d + 1) i hi hE
      · have hb := (hw_z_ne _).mp h
        rw [if_pos hb] at hs
        rw [bx_uu]
        have := ih (i + 1) en' (by omega) hs
        rw [← nI_1] at this
        exact this
  refine ⟨_, ⟨_, hT, Nat.le_of_ble_eq_true rfl, rfl⟩, ?_⟩
  exact L1 (len - pl) pl en (by omega) hS
set_option maxHeartbeats 4000000 in
set_option maxRecDepth 100000 in
theorem ct_Te_lineEnd (l : Launch) (g : hw_G) (w : hw_H) {T TC len : Nat} {sk en nu : Int32} {f : Nat → Int32} {pl : Nat} (hT : w T = some (tx_o TC (nI len) sk (nI pl) en nu)) (hC : w TC = some (.inl (g.2.1 1, 160, .inl f))) (hl : len ≤ 160) (hp : pl ≤ len) : hw_Mi l g ym_Te_lineEnd mw_Te_lineEnd (hw_R 1 0 0) [.ref T] w (fun r w' => r = nI (tx_ln f len pl) ∧ w' = w) := by
  refine hw_enteri (r := 1) rfl rfl (by simp [Value.category]) (Nat.le_of_ble_eq_true rfl) ?_
  intro p e s m args below meth c A X hr hlk hnm
  refine sg_Te_lineEnd_0 X (fun _ _ _ _ _ _ h => h) (hw_rti X hr hlk) ?_
  unfold vc_Te_lineEnd_0
  refine ⟨_, ⟨_, hT, rfl⟩, ?_⟩
  generalize hS : tx_ln f len pl = S0
  have L1 : ∀ (d i : Nat), i + d = len → tx_run tx_nl f (len - i) i = S0 → hw_Ji p l e (hw_R 1 0 0) s m args below meth c 2 g A (fun r w' => r = nI S0 ∧ w' = w) 0 0 5 [some (.ref T), some (.int (nI i))] [] w := by
    intro d
    induction d with
    | zero =>
      intro i hi hs
      have hi2 : i = len := by omega
      subst hi2
      rw [tx_run_e (Nat.le_refl _)] at hs
      subst hs
      refine sg_Te_lineEnd_5 X (fun _ _ _ _ _ _ h => h) (hw_rti X hr hlk) ?_
      unfold vc_Te_lineEnd_5
      exact ⟨_, ⟨_, hT, rfl⟩, fun _ => ⟨hw_00, rfl, rfl⟩, fun h => absurd (Int32.le_refl _) h⟩
    | succ d ih =>
      intro i hi hs
      rw [tx_run_s (by omega)] at hs
      refine sg_Te_lineEnd_5 X (fun _ _ _ _ _ _ h => h) (hw_rti X hr hlk) ?_
      unfold vc_Te_lineEnd_5
      refine ⟨_, ⟨_, hT, rfl⟩, fun h => absurd h (nI_ge (by omega) (by omega)), fun _ => ⟨_, ⟨_, hT, rfl⟩, _, ⟨_, _, hC, vp_in_nI (by omega) (by omega), rfl⟩, fun h => ?_, fun h => ?_⟩⟩
      · rw [nI_clamp (by omega)] at h
        rw [if_neg (by simp [tx_nl, h])] at hs
        subst hs
        exact ⟨hw_00, rfl, rfl⟩
      · rw [nI_clamp (by omega)] at h
        rw [if_pos (by simp [tx_nl, h])] at hs
        rw [nI_1]
        exact ih (i + 1) (by omega) hs
  exact L1 (len - pl) pl (by omega) hS
set_option maxHeartbeats 4000000 in
set_option maxRecDepth 100000 in
theorem ct_Te_beginsLine (l : Launch) (g : hw_G) (w : hw_H) {T TC len : Nat} {sk en nu : Int32} {f : Nat → Int32} {pl : Nat} (hT : w T = some (tx_o TC (nI len) sk (nI pl) en nu)) (hC : w TC = some (.inl (g.2.1 1, 160, .inl f))) (hl : len ≤ 160) (hp : pl ≤ len) : hw_Mi l g ym_Te_beginsLine mw_Te_beginsLine (hw_R 1 0 0) [.ref T] w (fun r w' => r = hw_z (tx_bg f pl) ∧ w' = w) := by
  refine hw_enteri (r := 1) rfl rfl (by simp [Value.category]) (Nat.le_of_ble_eq_true rfl) ?_
  intro p e s m args below meth c A X hr hlk hnm
  refine sg_Te_beginsLine_0 X (fun _ _ _ _ _ _ h => h) (hw_rtz X hr hlk) ?_
  unfold vc_Te_beginsLine_0
  refine ⟨_, ⟨_, hT, rfl⟩, fun y hy => ?_⟩
  have L1 : ∀ (i : Nat), i ≤ pl → tx_bg f pl = tx_bg f i → hw_Ji p l e (hw_R 1 0 0) s m args below meth c 2 g A (fun r w' => r = hw_z (tx_bg f pl) ∧ w' = w) 0 0 7 [some (.ref T), some (.int (tx_m i))] [] w := by
    intro i
    induction i with
    | zero =>
      intro hi hb
      refine sg_Te_beginsLine_7 X (fun _ _ _ _ _ _ h => h) (hw_rtz X hr hlk) ?_
      unfold vc_Te_beginsLine_7
      exact ⟨fun _ => ⟨fun _ => ⟨hw_00, Or.inr rfl, by rw [hb]; rfl, rfl⟩, fun h => absurd tx_m0 h⟩, fun h => absurd tx_m0 h⟩
    | succ i ih =>
      intro hi hb
      refine sg_Te_beginsLine_7 X (fun _ _ _ _ _ _ h => h) (hw_rtz X hr hlk) ?_
      unfold vc_Te_beginsLine_7
      rw [tx_ms]
      have h0 : ¬ nI i < 0 := nI_pos (by omega)
      have hin : vp_in (nI i) 160 := vp_in_nI (by omega) (by omega)
      refine ⟨fun h => absurd h h0, fun _ => ⟨_, ⟨_, hT, rfl⟩, _, ⟨_, _, hC, hin, rfl⟩, fun h => ⟨fun h9 => absurd h9 h0, fun _ => ⟨_, ⟨_, hT, rfl⟩, _, ⟨_, _, hC, hin, rfl⟩, fun h2 => ⟨hw_00, Or.inl rfl, ?_, rfl⟩, fun h2 => ⟨hw_00, Or.inr rfl, ?_, rfl⟩⟩⟩, fun h => ?_⟩⟩
      · rw [nI_clamp (by omega)] at h h2
        rw [hb]; simp [tx_bg, h, h2, hw_z]
      · rw [nI_clamp (by omega)] at h h2
        rw [hb]; simp [tx_bg, h2, hw_z]
      · rw [nI_clamp (by omega)] at h
        rw [tx_mp]
        exact ih (by omega) (by rw [hb]; simp [tx_bg, h])
  subst hy
  exact L1 pl (Nat.le_refl _) rfl
set_option maxHeartbeats 4000000 in
set_option maxRecDepth 100000 in
theorem ct_Te_isAtEnd (l : Launch) (g : hw_G) (w : hw_H) {T TC : Nat} {len sk st en nu : Int32} (hT : w T = some (tx_o TC len sk st en nu)) : hw_Mi l g ym_Te_isAtEnd mw_Te_isAtEnd (hw_R 1 0 0) [.ref T] w (fun r w' => r = hw_z (!decide (st < len)) ∧ w' = w) := by
  refine hw_enteri (r := 0) rfl rfl (by simp [Value.category]) (Nat.le_of_ble_eq_true rfl) ?_
  intro p e s m args below meth c A X hr hlk hnm
  refine sg_Te_isAtEnd_0 X (fun _ _ _ _ _ _ h => h) (hw_rtz X hr hlk) ?_
  unfold vc_Te_isAtEnd_0
  exact ⟨_, ⟨_, hT, rfl⟩, _, ⟨_, hT, rfl⟩, fun h => ⟨hw_00, Or.inl rfl, by simp [hw_z, h], rfl⟩, fun h => ⟨hw_00, Or.inr rfl, by simp [hw_z, h], rfl⟩⟩
def sw_ch (i k : Nat) : Int32 := (hw_sByt.getD i []).getD k 0 &&& 255
theorem sw_len : ∀ i, i < hw_sN → hw_sLen.getD i 0 ≤ 3 := by decide
set_option maxHeartbeats 4000000 in
set_option maxRecDepth 100000 in
theorem ct_Pc_checkIndex (l : Launch) (g : hw_G) (w : hw_H) {i n : Int32} {o : Option Nat} (h0 : ¬ i < 0) (h1 : i < n) : hw_Mi l g ym_Pc_checkIndex mw_Pc_checkIndex (hw_R 1 0 0) [.int i, .int n, va_rf o] w (fun r w' => w' = w) := by
  refine hw_enteri (r := 0) rfl rfl (by intro v hv; simp only [List.mem_cons, List.not_mem_nil, or_false] at hv; rcases hv with rfl | rfl | rfl <;> first | rfl | exact hw_rfc _) (by cases o <;> exact Nat.le_of_ble_eq_true rfl) ?_
  intro p e s m args below meth c A X hr hlk hnm
  refine sg_Pc_checkIndex_0 X (fun _ _ _ _ _ _ h => h) (hw_rti X hr hlk) ?_
  unfold vc_Pc_checkIndex_0
  exact ⟨fun h => absurd h h0, fun _ => ⟨fun _ => ⟨hw_00, rfl⟩, fun h => absurd h1 h⟩⟩
set_option maxHeartbeats 4000000 in
set_option maxRecDepth 100000 in
theorem ct_St_checkIndex (l : Launch) (g : hw_G) (w : hw_H) {i n : Int32} (h0 : ¬ i < 0) (h1 : i < n) : hw_Mv l g ym_St_checkIndex mw_St_checkIndex (hw_R 2 0 0) [.int i, .int n] w (fun w' => w' = w) := by
  refine hw_enterv (r := 0) rfl rfl (by simp [Value.category]) (Nat.le_of_ble_eq_true rfl) ?_
  intro p e s m args below meth c A X hr hlk hnm
  refine sg_St_checkIndex_0 X (fun _ _ _ _ _ _ h => h) (hw_rtv X hr hlk) ?_
  unfold vc_St_checkIndex_0
  refine fun o => hw_ci_0 (by decide) (by decide) (ct_Pc_checkIndex (o := o) l g w h0 h1) (Nat.zero_le _) (Nat.zero_le _) ?_
  rintro r w' rfl
  exact ⟨hw_00, rfl⟩
set_option maxHeartbeats 4000000 in
set_option maxRecDepth 100000 in
theorem ct_Sl_charAt (l : Launch) (g : hw_G) (w : hw_H) {j k : Nat} (hj : j < hw_sN) (hk : k < hw_sLen.getD j 0) : hw_Mi l g ym_Sl_charAt mw_Sl_charAt (hw_R 3 0 0) [.ref (g.2.2.2 j), .int (nI k)] w (fun r w' => r = sw_ch j k ∧ w' = w) := by
  refine hw_enteri (r := 0) rfl rfl (by simp [Value.category]) (Nat.le_of_ble_eq_true rfl) ?_
  intro p e s m args below meth c A X hr hlk hnm
  refine sg_Sl_charAt_0 X (fun _ _ _ _ _ _ h => h) (hw_rtn X hr hlk) ?_
  unfold vc_Sl_charAt_0
  have hl := sw_len j hj
  refine ⟨hj, hw_cv_0 (by decide) (by decide) (ct_St_checkIndex l g w (nI_pos (by omega)) (nI_lt hk (by omega))) (Nat.zero_le _) (Nat.zero_le _) ?_⟩
  rintro w' rfl
  refine ⟨⟨hj, vp_in_nI hk (by omega)⟩, fun x hx => ?_⟩
  rw [sc_c2]
  rw [nI_clamp (by omega)] at hx
  subst hx
  exact ⟨hw_00, sc_nar _, rfl, rfl⟩
set_option maxHeartbeats 4000000 in
set_option maxRecDepth 100000 in
theorem ct_St_isLatin1 (l : Launch) (g : hw_G) (w : hw_H) {i : Nat} (hi : i < hw_sN) : hw_Mi l g ym_St_isLatin1 mw_St_isLatin1 (hw_R 1 0 0) [.ref (g.2.2.1 i)] w (fun r w' => r = 1 ∧ w' = w) := by
  refine hw_enteri (r := 0) rfl rfl (by simp [Value.category]) (Nat.le_of_ble_eq_true rfl) ?_
  intro p e s m args below meth c A X hr hlk hnm
  refine sg_St_isLatin1_0 X (fun _ _ _ _ _ _ h => h) (hw_rtz X hr hlk) ?_
  unfold vc_St_isLatin1_0
  exact ⟨hi, hw_00, Or.inr rfl, rfl, rfl⟩
set_option maxHeartbeats 4000000 in
set_option maxRecDepth 100000 in
theorem ct_St_charAt (l : Launch) (g : hw_G) (w : hw_H) {j k : Nat} (hj : j < hw_sN) (hk : k < hw_sLen.getD j 0) : hw_Mi l g ym_St_charAt mw_St_charAt (hw_R 4 0 0) [.ref (g.2.2.1 j), .int (nI k)] w (fun r w' => r = sw_ch j k ∧ w' = w) := by
  refine hw_enteri (r := 0) rfl rfl (by simp [Value.category]) (Nat.le_of_ble_eq_true rfl) ?_
  intro p e s m args below meth c A X hr hlk hnm
  refine sg_St_charAt_0 X (fun _ _ _ _ _ _ h => h) (hw_rtn X hr hlk) ?_
  unfold vc_St_charAt_0
  refine ⟨hj, hw_ci_0 (by decide) (by decide) (ct_St_isLatin1 l g w hj) (Nat.zero_le _) (Nat.zero_le _) ?_⟩
  rintro r w' ⟨rfl, rfl⟩
  refine ⟨fun h => absurd h (by decide), fun _ => ⟨hj, hw_ci_0 (by decide) (by decide) (ct_Sl_charAt l g w' hj hk) (Nat.zero_le _) (Nat.zero_le _) ?_⟩⟩
  rintro r w'' ⟨rfl, rfl⟩
  exact ⟨hw_00, sc_nar _, rfl, rfl⟩
def tx_cmp (f : Nat → Int32) (a i : Nat) : Nat → Nat → Bool
  | 0, _ => true
  | d + 1, k => decide (f (a + k) = sw_ch i k) && tx_cmp f a i d (k + 1)
def tx_is (f : Nat → Int32) (a b i : Nat) : Bool := decide (b - a = hw_sLen.getD i 0) && tx_cmp f a i (b - a) 0
set_option maxHeartbeats 4000000 in
set_option maxRecDepth 100000 in
theorem ct_Te_isWord (l : Launch) (g : hw_G) (w : hw_H) {T TC len a b : Nat} {sk nu : Int32} {f : Nat → Int32} {i : Nat} (hT : w T = some (tx_o TC (nI len) sk (nI a) (nI b) nu)) (hC : w TC = some (.inl (g.2.1 1, 160, .inl f))) (hl : len ≤ 160) (hab : a ≤ b) (hbl : b ≤ len) (hi : i < hw_sN) : hw_Mi l g ym_Te_isWord mw_Te_isWord (hw_R 5 0 0) [.ref T, .ref (g.2.2.1 i)] w (fun r w' => r = hw_z (tx_is f a b i) ∧ w' = w) := by
  refine hw_enteri (r := 1) rfl rfl (by simp [Value.category]) (Nat.le_of_ble_eq_true rfl) ?_
  intro p e s m args below meth c A X hr hlk hnm
  refine sg_Te_isWord_0 X (fun _ _ _ _ _ _ h => h) (hw_rtz X hr hlk) ?_
  unfold vc_Te_isWord_0
  have hl3 := sw_len i hi
  refine ⟨_, ⟨_, hT, rfl⟩, _, ⟨_, hT, rfl⟩, hi, hw_ci_0 (by decide) (by decide) (ct_St_length l g w hi) (Nat.zero_le _) (Nat.zero_le _) ?_⟩
  rintro r w1 ⟨rfl, rfl⟩
  rw [pk_sub hab, nI_eq (by omega) (by omega)]
  refine ⟨fun h => ⟨_, ⟨_, hT, rfl⟩, ?_⟩, fun h => ⟨hw_00, Or.inl rfl, hw_z_f (by unfold tx_is; rw [decide_eq_false h]; rfl), rfl⟩⟩
  have hyes : tx_is f a b i = tx_cmp f a i (b - a) 0 := by simp [tx_is, h]
  have L1 : ∀ (d k : Nat), k + d = b - a → tx_cmp f a i (b - a) 0 = tx_cmp f a i d k → hw_Ji p l e (hw_R 5 0 0) s m args below meth c 3 g A (fun r w' => r = hw_z (tx_is f a b i) ∧ w' = w1) 0 0 23 [some (.ref T), some (.ref (g.2.2.1 i)), some (.int (nI (a + k)))] [] w1 := by
    intro d
    induction d with
    | zero =>
      intro k hk hc
      refine sg_Te_isWord_23 X (fun _ _ _ _ _ _ h => h) (hw_rtz X hr hlk) ?_
      unfold vc_Te_isWord_23
      exact ⟨_, ⟨_, hT, rfl⟩, fun _ => ⟨hw_00, Or.inr rfl, by rw [hyes, hc]; rfl, rfl⟩, fun h9 => absurd (nI_le (by omega) (by omega)) h9⟩
    | succ d ih =>
      intro k hk hc
      refine sg_Te_isWord_23 X (fun _ _ _ _ _ _ h => h) (hw_rtz X hr hlk) ?_
      unfold vc_Te_isWord_23
      refine ⟨_, ⟨_, hT, rfl⟩, fun h9 => absurd h9 (nI_ge (by omega) (by omega)), fun _ => ⟨_, ⟨_, hT, rfl⟩, _, ⟨_, _, hC, vp_in_nI (by omega) (by omega), rfl⟩, _, ⟨_, hT, rfl⟩, hi, ?_⟩⟩
      rw [pk_sub (show a ≤ a + k by omega), show a + k - a = k by omega, nI_clamp (by omega)]
      refine hw_ci_0 (by decide) (by decide) (ct_St_charAt l g w1 hi (by omega)) (Nat.zero_le _) (Nat.zero_le _) ?_
      rintro r w2 ⟨rfl, rfl⟩
      refine ⟨fun h9 => ?_, fun h9 => ⟨hw_00, Or.inl rfl, ?_, rfl⟩⟩
      · rw [nI_1]
        exact ih (k + 1) (by omega) (by rw [hc]; simp [tx_cmp, h9])
      · rw [hyes, hc]; simp [tx_cmp, h9, hw_z]
  exact L1 (b - a) 0 (by omega) rfl
set_option maxHeartbeats 4000000 in
set_option maxRecDepth 100000 in
theorem ct_Te_isRemark (l : Launch) (g : hw_G) (w : hw_H) {T TC len a b : Nat} {sk nu : Int32} {f : Nat → Int32} (hT : w T = some (tx_o TC (nI len) sk (nI a) (nI b) nu)) (hC : w TC = some (.inl (g.2.1 1, 160, .inl f))) (hl : len ≤ 160) (hab : a ≤ b) (hbl : b ≤ len) : hw_Mi l g ym_Te_isRemark mw_Te_isRemark (hw_R 6 0 0) [.ref T] w (fun r w' => r = hw_z (!decide (sk = 0) && (tx_is f a b 0 && tx_bg f a)) ∧ w' = w) := by
  refine hw_enteri (r := 0) rfl rfl (by simp [Value.category]) (Nat.le_of_ble_eq_true rfl) ?_
  intro p e s m args below meth c A X hr hlk hnm
  refine sg_Te_isRemark_0 X (fun _ _ _ _ _ _ h => h) (hw_rtz X hr hlk) ?_
  unfold vc_Te_isRemark_0
  refine ⟨_, ⟨_, hT, rfl⟩, fun h => ⟨hw_00, Or.inl rfl, by simp [h, hw_z], rfl⟩, fun h => ⟨hw_o_of hT rfl rfl, hw_ci_0 (by decide) (by decide) (ct_Te_isWord (i := 0) l g w hT hC hl hab hbl (by decide)) (Nat.zero_le _) (Nat.zero_le _) ?_⟩⟩
  rintro r w1 ⟨rfl, rfl⟩
  refine ⟨fun h2 => ⟨hw_00, Or.inl rfl, ?_, rfl⟩, fun h2 => ⟨hw_o_of hT rfl rfl, hw_ci_0 (by decide) (by decide) (ct_Te_beginsLine l g w1 hT hC hl (by omega)) (Nat.zero_le _) (Nat.zero_le _) ?_⟩⟩
  · rw [hw_z_eq] at h2; simp [h2, hw_z]
  rintro r w2 ⟨rfl, rfl⟩
  rw [hw_z_ne] at h2
  refine ⟨fun h3 => ⟨hw_00, Or.inl rfl, ?_, rfl⟩, fun h3 => ⟨hw_00, Or.inr rfl, ?_, rfl⟩⟩
  · rw [hw_z_eq] at h3; simp [h3, hw_z]
  · rw [hw_z_ne] at h3; simp [h, h2, h3, hw_z]
def tx_st (f : Nat → Int32) (len p : Nat) : Nat × Nat := (tx_sk f len p, tx_we f len (tx_sk f len p))
def tx_rm (f : Nat → Int32) (sk : Int32) (q : Nat × Nat) : Bool := !decide (sk = 0) && (tx_is f q.1 q.2 0 && tx_bg f q.1)
def tx_fx (f : Nat → Int32) (len : Nat) (sk : Int32) : Nat → Nat × Nat → Nat × Nat
  | 0, q => q
  | k + 1, q => if tx_rm f sk q = true then tx_fx f len sk k (tx_st f len (tx_ln f len q.1)) else q
def tx_adv (f : Nat → Int32) (len : Nat) (sk : Int32) (e : Nat) : Nat × Nat := tx_fx f len sk len (tx_st f len e)
theorem tx_st_b {f : Nat → Int32} {len p : Nat} (h : p ≤ len) : p ≤ (tx_st f len p).1 ∧ (tx_st f len p).1 ≤ (tx_st f len p).2 ∧ (tx_st f len p).2 ≤ len := by
  have h1 := tx_sk_b (f := f) h
  have h2 := tx_we_b (f := f) h1.2
  exact ⟨h1.1, h2.1, h2.2⟩
theorem tx_fx_b {f : Nat → Int32} {len : Nat} {sk : Int32} : ∀ (k : Nat) (q : Nat × Nat), q.1 ≤ q.2 → q.2 ≤ len → q.1 ≤ (tx_fx f len sk k q).1 ∧ (tx_fx f len sk k q).1 ≤ (tx_fx f len sk k q).2 ∧ (tx_fx f len sk k q).2 ≤ len := by
  intro k
  induction k with
  | zero => intro q h1 h2; exact ⟨Nat.le_refl _, h1, h2⟩
  | succ k ih =>
    intro q h1 h2
    unfold tx_fx
    split
    · have h3 := tx_ln_b (f := f) (len := len) (p := q.1) (by omega)
      have h4 := tx_st_b (f := f) h3.2
      have h5 := ih (tx_st f len (tx_ln f len q.1)) h4.2.1 h4.2.2
      omega
    · exact ⟨Nat.le_refl _, h1, h2⟩
theorem tx_adv_b {f : Nat → Int32} {len : Nat} {sk : Int32} {e : Nat} (h : e ≤ len) : e ≤ (tx_adv f len sk e).1 ∧ (tx_adv f len sk e).1 ≤ (tx_adv f len sk e).2 ∧ (tx_adv f len sk e).2 ≤ len := by
  have h1 := tx_st_b (f := f) h
  have h2 := tx_fx_b (f := f) (sk := sk) len (tx_st f len e) h1.2.1 h1.2.2
  unfold tx_adv
  omega
set_option maxHeartbeats 4000000 in
set_option maxRecDepth 100000 in
theorem ct_Te_advance (l : Launch) (g : hw_G) (w : hw_H) {T TC len pe : Nat} {sk st nu : Int32} {f : Nat → Int32} (hT : w T = some (tx_o TC (nI len) sk st (nI pe) nu)) (hC : w TC = some (.inl (g.2.1 1, 160, .inl f))) (hl : len ≤ 160) (hp : pe ≤ len) : hw_Mv l g ym_Te_advance mw_Te_advance (hw_R 7 0 0) [.ref T] w (fun w' => w' = va_up w T (some (tx_o TC (nI len) sk (nI (tx_adv f len sk pe).1) (nI (tx_adv f len sk pe).2) nu))) := by
  refine hw_enterv (r := 1) rfl rfl (by simp [Value.category]) (Nat.le_of_ble_eq_true rfl) ?_
  intro p e s m args below meth c A X hr hlk hnm
  refine sg_Te_advance_0 X (fun _ _ _ _ _ _ h => h) (hw_rtv X hr hlk) ?_
  unfold vc_Te_advance_0
  have hne : TC ≠ T := by rintro rfl; rw [hC] at hT; cases hT
  have hC1 : ∀ x, (va_up w T x) TC = some (.inl (g.2.1 1, 160, .inl f)) := fun x => by rw [va_up_ne _ _ hne]; exact hC
  generalize hR : tx_adv f len sk pe = R0
  have L1 : ∀ (d i : Nat) (q : Nat × Nat), i + d = len → q.1 ≤ q.2 → q.2 ≤ len → tx_fx f len sk d q = R0 → hw_Jv p l e (hw_R 7 0 0) s m args below meth c 2 g A (fun w' => w' = va_up w T (some (tx_o TC (nI len) sk (nI R0.1) (nI R0.2) nu))) 0 0 10 [some (.ref T), some (.int (nI i))] [] (va_up w T (some (tx_o TC (nI len) sk (nI q.1) (nI q.2) nu))) := by
    intro d
    induction d with
    | zero =>
      intro i q hi h1 h2 hq
      have hi2 : i = len := by omega
      subst hi2
      have hq : q = R0 := hq
      subst hq
      refine sg_Te_advance_10 X (fun _ _ _ _ _ _ h => h) (hw_rtv X hr hlk) ?_
      unfold vc_Te_advance_10
      exact ⟨_, ⟨_, (va_up_self _ _ _), rfl⟩, fun _ => ⟨hw_00, rfl⟩, fun h => absurd (Int32.le_refl _) h⟩
    | succ d ih =>
      intro i q hi h1 h2 hq
      refine sg_Te_advance_10 X (fun _ _ _ _ _ _ h => h) (hw_rtv X hr hlk) ?_
      unfold vc_Te_advance_10
      refine ⟨_, ⟨_, (va_up_self _ _ _), rfl⟩, fun h => absurd h (nI_ge (by omega) (by omega)), fun _ => ⟨hw_o_of (va_up_self _ _ _) rfl rfl, hw_ci_0 (by decide) (by decide) (ct_Te_isRemark (TC := TC) (len := len) (a := q.1) (b := q.2) (sk := sk) (nu := nu) (f := f) l g _ (va_up_self _ _ _) (hC1 _) hl h1 h2) (Nat.zero_le _) (Nat.zero_le _) ?_⟩⟩
      rintro r w2 ⟨rfl, rfl⟩
      refine ⟨fun h => ?_, fun h => ⟨hw_o_of (va_up_self _ _ _) rfl rfl, hw_ci_0 (by decide) (by decide) (ct_Te_lineEnd (TC := TC) (len := len) (pl := q.1) (sk := sk) (en := nI q.2) (nu := nu) (f := f) l g _ (va_up_self _ _ _) (hC1 _) hl (by omega)) (Nat.zero_le _) (Nat.zero_le _) ?_⟩⟩
      · have hb : tx_rm f sk q = false := (hw_z_eq _).mp h
        unfold tx_fx at hq
        rw [if_neg (by simp [hb])] at hq
        subst hq
        exact ⟨hw_00, rfl⟩
      rintro r w3 ⟨rfl, rfl⟩
      have hb : tx_rm f sk q = true := (hw_z_ne _).mp h
      have h3 := tx_ln_b (f := f) (len := len) (p := q.1) (by omega)
      have h4 := tx_st_b (f := f) h3.2
      refine ⟨hw_o_of (va_up_self _ _ _) rfl rfl, hw_cv_0 (by decide) (by decide) (ct_Te_standBehind (TC := TC) (len := len) (sk := sk) (st := nI q.1) (en := nI q.2) (nu := nu) (f := f) l g _ (va_up_self _ _ _) (hC1 _) hl h3.2) (Nat.zero_le _) (Nat.zero_le _) ?_⟩
      rintro w4 rfl
      rw [bx_uu, nI_1]
      unfold tx_fx at hq
      rw [if_pos hb] at hq
      exact ih (i + 1) (tx_st f len (tx_ln f len q.1)) (by omega) h4.2.1 h4.2.2 hq
  refine ⟨_, ⟨_, hT, rfl⟩, hw_o_of hT rfl rfl, hw_cv_0 (by decide) (by decide) (ct_Te_standBehind l g w hT hC hl hp) (Nat.zero_le _) (Nat.zero_le _) ?_⟩
  rintro w1 rfl
  have h4 := tx_st_b (f := f) hp
  exact L1 len 0 (tx_st f len pe) (by omega) h4.2.1 h4.2.2 hR
set_option maxHeartbeats 4000000 in
set_option maxRecDepth 100000 in
theorem ct_Te_rewind (l : Launch) (g : hw_G) (w : hw_H) {T TC len : Nat} {sk st en nu : Int32} {f : Nat → Int32} {x : Int32} (hT : w T = some (tx_o TC (nI len) sk st en nu)) (hC : w TC = some (.inl (g.2.1 1, 160, .inl f))) (hl : len ≤ 160) (hx : hw_b x) : hw_Mv l g ym_Te_rewind mw_Te_rewind (hw_R 8 0 0) [.ref T, .int x] w (fun w' => w' = va_up w T (some (tx_o TC (nI len) x (nI (tx_adv f len x 0).1) (nI (tx_adv f len x 0).2) nu))) := by
  refine hw_enterv (r := 0) rfl rfl (by simp [Value.category]) (Nat.le_of_ble_eq_true rfl) ?_
  intro p e s m args below meth c A X hr hlk hnm
  refine sg_Te_rewind_0 X (fun _ _ _ _ _ _ h => h) (hw_rtv X hr hlk) ?_
  unfold vc_Te_rewind_0
  have hne : TC ≠ T := by rintro rfl; rw [hC] at hT; cases hT
  refine ⟨_, ⟨_, hT, Nat.le_of_ble_eq_true rfl, rfl⟩, hx, _, ⟨_, (va_up_self _ _ _), Nat.le_of_ble_eq_true rfl, rfl⟩, hw_o_of (va_up_self _ _ _) rfl rfl, hw_cv_0 (by decide) (by decide) (ct_Te_advance (TC := TC) (len := len) (pe := 0) (sk := x) (st := st) (nu := nu) (f := f) l g _ (va_up_self _ _ _) (by rw [va_up_ne _ _ hne, va_up_ne _ _ hne]; exact hC) hl (Nat.zero_le _)) (Nat.zero_le _) (Nat.zero_le _) ?_⟩
  rintro w' rfl
  exact ⟨hw_00, by rw [bx_uu, bx_uu]⟩
set_option maxHeartbeats 4000000 in
set_option maxRecDepth 100000 in
theorem ct_Te_passesWord (l : Launch) (g : hw_G) (w : hw_H) {T TC len a b : Nat} {sk nu : Int32} {f : Nat → Int32} {i : Nat} (hT : w T = some (tx_o TC (nI len) sk (nI a) (nI b) nu)) (hC : w TC = some (.inl (g.2.1 1, 160, .inl f))) (hl : len ≤ 160) (hab : a ≤ b) (hbl : b ≤ len) (hi : i < hw_sN) : hw_Mi l g ym_Te_passesWord mw_Te_passesWord (hw_R 8 0 0) [.ref T, .ref (g.2.2.1 i)] w (fun r w' => r = hw_z (tx_is f a b i) ∧ w' = (if tx_is f a b i = true then va_up w T (some (tx_o TC (nI len) sk (nI (tx_adv f len sk b).1) (nI (tx_adv f len sk b).2) nu)) else w)) := by
  refine hw_enteri (r := 0) rfl rfl (by simp [Value.category]) (Nat.le_of_ble_eq_true rfl) ?_
  intro p e s m args below meth c A X hr hlk hnm
  refine sg_Te_passesWord_0 X (fun _ _ _ _ _ _ h => h) (hw_rtz X hr hlk) ?_
  unfold vc_Te_passesWord_0
  refine ⟨hw_o_of hT rfl rfl, hw_ci_0 (by decide) (by decide) (ct_Te_isWord l g w hT hC hl hab hbl hi) (Nat.zero_le _) (Nat.zero_le _) ?_⟩
  rintro r w1 ⟨rfl, rfl⟩
  refine ⟨fun h => ⟨hw_o_of hT rfl rfl, hw_cv_0 (by decide) (by decide) (ct_Te_advance l g w1 hT hC hl hbl) (Nat.zero_le _) (Nat.zero_le _) ?_⟩, fun h => ?_⟩
  · rintro w2 rfl
    rw [hw_z_ne] at h
    exact ⟨hw_00, Or.inr rfl, hw_z_t h, by rw [if_pos h]⟩
  · rw [hw_z_eq] at h
    exact ⟨hw_00, Or.inl rfl, hw_z_f h, by rw [if_neg (by simp [h])]⟩
