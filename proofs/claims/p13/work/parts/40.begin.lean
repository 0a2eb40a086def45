def sx_no : va_E → Prop
  | .inr (k, _) => k ≠ 2
  | .inl (_, n, _) => n ≠ 2072 ∧ n ≠ 10 ∧ n ≠ 11
theorem sx_ne {g : hw_G} {w : hw_H} {q : Nat → Nat} {t : sx_T} {y : Nat} {e : va_E} (hI : sx_I g w q t) (hy : w y = some e) (hn : sx_no e) (i : Nat) (hi : i < 6) : y ≠ q i := by
  obtain ⟨D, h0, h1, h2, h3, h4, h5⟩ := hI
  rintro rfl
  have hc : i = 0 ∨ i = 1 ∨ i = 2 ∨ i = 3 ∨ i = 4 ∨ i = 5 := by omega
  rcases hc with rfl | rfl | rfl | rfl | rfl | rfl
  · rw [h0] at hy; cases hy; exact hn rfl
  · rw [h1] at hy; cases hy; exact hn.1 rfl
  · rw [h2] at hy; cases hy; exact hn.2.1 rfl
  · rw [h3] at hy; cases hy; exact hn.2.1 rfl
  · rw [h4] at hy; cases hy; exact hn.2.2 rfl
  · rw [h5] at hy; cases hy; exact hn.2.2 rfl
theorem sx_kp {g : hw_G} {w w' : hw_H} {q : Nat → Nat} {t : sx_T} {y : Nat} {e : va_E} (hI : sx_I g w q t) (hk : sx_K w w' q) (hy : w y = some e) (hn : sx_no e) : w' y = some e := by
  rw [hk y (by rw [hy]; exact Option.some_ne_none _) (sx_ne hI hy hn)]; exact hy
def sx_bg (fc : Nat → Int32) (n v : Nat) (t : sx_T) : sx_T := (fc, n, v, false, false, false, true, 0, sx_ft t, sx_fr t, 0, sx_fk t, 0, sx_fh t, sx_hc t)
def sx_b1 (fc : Nat → Int32) (n : Nat) (t : sx_T) : sx_T := (fc, n, sx_vv t, sx_fi t, sx_sa t, sx_re t, sx_sh t, sx_kn t, sx_ft t, sx_fr t, sx_ts t, sx_fk t, sx_lv t, sx_fh t, sx_hc t)
theorem sx_ok_bg {fc : Nat → Int32} {n v : Nat} {t : sx_T} (h : sx_ok t) (hn : n ≤ 2072) (hv : v ≤ 10) : sx_ok (sx_bg fc n v t) := by
  obtain ⟨o1, o2, o3, o4, o5, o6, o7⟩ := h
  exact ⟨hn, hv, Nat.zero_le _, (by decide : cx_P 0 ≤ 0), Nat.zero_le _, o6, o7⟩
theorem fg_ar_g {g : hw_G} {w : hw_H} {h : Nat → Option Nat} {cs : List (Int32 × List Int32)} (H : fg_ar g w h cs) {i : Nat} (hi : i < cs.length) : ∃ c : Nat, h i = some c ∧ cl_ok g w c cs[i].1 cs[i].2 := H i cs[i] (List.getElem?_eq_getElem hi)
theorem fg_ar_p {g : hw_G} {w : hw_H} {h : Nat → Option Nat} {cs : List (Int32 × List Int32)} (H : fg_ar g w h cs) : pr_ar g w h cs.length := fun i hi => by
  obtain ⟨c, h1, h2⟩ := fg_ar_g H hi
  exact ⟨c, h1, _, _, h2⟩
set_option maxHeartbeats 4000000 in
set_option maxRecDepth 100000 in
theorem ct_Se_begin (l : Launch) (g : hw_G) (w : hw_H) {q : Nat → Nat} {t : sx_T} {F fa v : Nat} {cnt : Int32} {hf : Nat → Option Nat} {cs : List (Int32 × List Int32)} (hI : sx_I g w q t) (hF : w F = some (fg_o (nI v) fa cs.length cnt)) (hn : cs.length ≤ 24) (hfa : w fa = some (ar_q g 24 hf)) (hcs : fg_ar g w hf cs) : hw_Mv l g ym_Se_begin mw_Se_begin (hw_R 1 0 0) [.ref (q 0), .ref F] w (fun w' => ∃ fc : Nat → Int32, (∀ (i : Nat) (x : Int32 × List Int32), cs[i]? = some x → fc i = cl_mask x.2) ∧ sx_I g w' q (sx_bg fc cs.length v t) ∧ sx_K w w' q) := by
  refine hw_enterv (r := 1) rfl rfl (by simp [Value.category]) (Nat.le_of_ble_eq_true rfl) ?_
  intro p e s m args below meth c A X hr hlk hnm
  refine sg_Se_begin_0 X (fun _ _ _ _ _ _ h => h) (hw_rtv X hr hlk) ?_
  unfold vc_Se_begin_0
  have nF := sx_ne hI hF (by decide : (3 : Nat) ≠ 2)
  have nfa := sx_ne hI hfa (by decide : (24 : Nat) ≠ 2072 ∧ (24 : Nat) ≠ 10 ∧ (24 : Nat) ≠ 11)
  have L1 : ∀ (d i : Nat) (fc : Nat → Int32) (w1 : hw_H), i + d = cs.length → (∀ (j : Nat) (x : Int32 × List Int32), j < i → cs[j]? = some x → fc j = cl_mask x.2) → sx_I g w1 q (sx_b1 fc cs.length t) → sx_K w w1 q → hw_Jv p l e (hw_R 1 0 0) s m args below meth c 3 g A (fun w' => ∃ fc : Nat → Int32, (∀ (i : Nat) (x : Int32 × List Int32), cs[i]? = some x → fc i = cl_mask x.2) ∧ sx_I g w' q (sx_bg fc cs.length v t) ∧ sx_K w w' q) 0 0 10 [some (.ref (q 0)), some (.ref F), some (.int (nI i))] [] w1 := by
    intro d
    induction d with
    | zero =>
      intro i fc w1 hi hj h1 hk
      have hi2 : i = cs.length := by omega
      subst hi2
      have hF1 : w1 F = _ := (hk F (hw_sn hF) nF).trans hF
      have h0 := h1.2.1
      refine sg_Se_begin_10 X (fun _ _ _ _ _ _ h => h) (hw_rtv X hr hlk) ?_
      unfold vc_Se_begin_10
      refine ⟨_, ⟨_, h0, rfl⟩, fun _ => ⟨_, ⟨_, hF1, rfl⟩, _, ⟨_, h0, Nat.le_of_ble_eq_true rfl, rfl⟩, _, ⟨_, (va_up_self _ _ _), Nat.le_of_ble_eq_true rfl, rfl⟩, Or.inl rfl, _, ⟨_, (va_up_self _ _ _), Nat.le_of_ble_eq_true rfl, rfl⟩, Or.inl rfl, _, ⟨_, (va_up_self _ _ _), Nat.le_of_ble_eq_true rfl, rfl⟩, Or.inl rfl, _, ⟨_, (va_up_self _ _ _), Nat.le_of_ble_eq_true rfl, rfl⟩, Or.inr rfl, _, ⟨_, (va_up_self _ _ _), Nat.le_of_ble_eq_true rfl, rfl⟩, _, ⟨_, (va_up_self _ _ _), Nat.le_of_ble_eq_true rfl, rfl⟩, _, ⟨_, (va_up_self _ _ _), Nat.le_of_ble_eq_true rfl, rfl⟩, hw_00, fc, ?_, ?_, ?_⟩, fun h => absurd (Int32.le_refl _) h⟩
      · intro j x hx
        refine hj j x ?_ hx
        rcases Nat.lt_or_ge j cs.length with z | z
        · exact z
        · rw [List.getElem?_eq_none z] at hx; cases hx
      · rw [bx_uu, bx_uu, bx_uu, bx_uu, bx_uu, bx_uu, bx_uu]
        exact sx_u0 (t' := sx_bg fc cs.length v t) h1 rfl rfl rfl rfl rfl
      · rw [bx_uu, bx_uu, bx_uu, bx_uu, bx_uu, bx_uu, bx_uu]
        exact sx_K_u hk (by decide)
    | succ d ih =>
      intro i fc w1 hi hj h1 hk
      have hil : i < cs.length := by omega
      obtain ⟨kc, hc, la, f, c1, c2, c3⟩ := fg_ar_g hcs hil
      have hF1 : w1 F = _ := (hk F (hw_sn hF) nF).trans hF
      have hfa1 : w1 fa = _ := (hk fa (hw_sn hfa) nfa).trans hfa
      have c4 := sx_kp hI hk c1 (by decide : (5 : Nat) ≠ 2)
      have h0 := h1.2.1
      refine sg_Se_begin_10 X (fun _ _ _ _ _ _ h => h) (hw_rtv X hr hlk) ?_
      unfold vc_Se_begin_10
      refine ⟨_, ⟨_, h0, rfl⟩, fun h => absurd h (nI_ge (b := cs.length) (by omega) (by omega)), fun _ => ⟨_, ⟨_, h0, rfl⟩, _, ⟨_, hF1, rfl⟩, kc, ⟨_, _, hfa1, vp_in_nI (by omega) (by omega), (by rw [nI_clamp (by omega)]; exact hc)⟩, _, ⟨_, c4, rfl⟩, _, ⟨_, _, h1.2.2.1, vp_in_nI (by omega) (by omega), rfl⟩, ?_⟩⟩
      rw [nI_1, nI_clamp (by omega)]
      have i2 := sx_u1 (upd (sx_fc (sx_b1 fc cs.length t)) i (cl_mask cs[i].2)) h1
      refine ih (i + 1) (upd fc i (cl_mask cs[i].2)) _ (by omega) (fun j x hj2 hx => ?_) i2 (sx_K_u hk (by decide))
      by_cases hji : j = i
      · subst hji
        rw [List.getElem?_eq_getElem hil] at hx
        cases hx
        exact pk_us
      · rw [pk_un hji]; exact hj j x (by omega) hx
  have h0 := hI.2.1
  refine ⟨_, ⟨_, hF, rfl⟩, _, ⟨_, h0, Nat.le_of_ble_eq_true rfl, rfl⟩, ?_⟩
  exact L1 cs.length 0 (sx_fc t) _ (by omega) (fun j x z => absurd z (Nat.not_lt_zero _)) (sx_u0 (t' := sx_b1 (sx_fc t) cs.length t) hI rfl rfl rfl rfl rfl) (sx_K_u sx_K_r (by decide))
abbrev fo_C : Type := List (Int32 × List Int32)
def fo_sa : fo_C → Int32 → Bool
  | [], _ => true
  | y :: ys, x => if (cl_mask y.2 &&& x) = 0 then false else fo_sa ys x
theorem fo_dr {cs : fo_C} {i : Nat} (h : i < cs.length) : cs.drop i = cs[i] :: cs.drop (i + 1) := List.drop_eq_getElem_cons h
set_option maxHeartbeats 4000000 in
set_option maxRecDepth 100000 in
theorem ct_Fo_isSatisfied (l : Launch) (g : hw_G) (w : hw_H) {F fa v : Nat} {cnt : Int32} {hf : Nat → Option Nat} {cs : List (Int32 × List Int32)} {x : Int32} (hF : w F = some (fg_o (nI v) fa cs.length cnt)) (hn : cs.length ≤ 24) (hfa : w fa = some (ar_q g 24 hf)) (hcs : fg_ar g w hf cs) : hw_Mi l g ym_Fo_isSatisfied mw_Fo_isSatisfied (hw_R 1 0 0) [.ref F, .int x] w (fun r w' => r = hw_z (fo_sa cs x) ∧ w' = w) := by
  refine hw_enteri (r := 1) rfl rfl (by simp [Value.category]) (Nat.le_of_ble_eq_true rfl) ?_
  intro p e s m args below meth c A X hr hlk hnm
  refine sg_Fo_isSatisfied_0 X (fun _ _ _ _ _ _ h => h) (hw_rtz X hr hlk) ?_
  unfold vc_Fo_isSatisfied_0
  have L1 : ∀ (d i : Nat), i + d = cs.length → fo_sa (cs.drop i) x = fo_sa cs x → hw_Ji p l e (hw_R 1 0 0) s m args below meth c 3 g A (fun r w' => r = hw_z (fo_sa cs x) ∧ w' = w) 0 0 2 [some (.ref F), some (.int x), some (.int (nI i))] [] w := by
    intro d
    induction d with
    | zero =>
      intro i hi hs
      have hi2 : i = cs.length := by omega
      subst hi2
      rw [List.drop_length] at hs
      refine sg_Fo_isSatisfied_2 X (fun _ _ _ _ _ _ h => h) (hw_rtz X hr hlk) ?_
      unfold vc_Fo_isSatisfied_2
      exact ⟨_, ⟨_, hF, rfl⟩, fun _ => ⟨hw_00, Or.inr rfl, hw_z_t hs.symm, rfl⟩, fun h => absurd (Int32.le_refl _) h⟩
    | succ d ih =>
      intro i hi hs
      have hil : i < cs.length := by omega
      obtain ⟨kc, hc, la, f, c1, c2, c3⟩ := fg_ar_g hcs hil
      rw [fo_dr hil, fo_sa.eq_2] at hs
      refine sg_Fo_isSatisfied_2 X (fun _ _ _ _ _ _ h => h) (hw_rtz X hr hlk) ?_
      unfold vc_Fo_isSatisfied_2
      refine ⟨_, ⟨_, hF, rfl⟩, fun h => absurd h (nI_ge (by omega) (by omega)), fun _ => ⟨_, ⟨_, hF, rfl⟩, kc, ⟨_, _, hfa, vp_in_nI (by omega) (by omega), (by rw [nI_clamp (by omega)]; exact hc)⟩, _, ⟨_, c1, rfl⟩, fun h => ?_, fun h => ?_⟩⟩
      · rw [if_neg h] at hs
        rw [nI_1]
        exact ih (i + 1) (by omega) hs
      · rw [if_pos h] at hs
        exact ⟨hw_00, Or.inl rfl, hw_z_f hs.symm, rfl⟩
  exact L1 cs.length 0 (by omega) rfl
def fo_at (v i : Nat) : Int32 := nI i ||| ((((1 : Int32) <<< (nI v &&& 31)) - (1 : Int32) - nI i) <<< ((10 : Int32) &&& 31))
def fo_cn (cs : fo_C) (v : Nat) : Nat → Nat → Nat
  | 0, _ => 0
  | d + 1, i => (if fo_sa cs (fo_at v i) = true then 1 else 0) + fo_cn cs v d (i + 1)
def fo_n (cs : fo_C) (v : Nat) : Nat := fo_cn cs v (2 ^ v) 0
theorem fo_sh : ∀ v, v < 11 → ((1 : Int32) <<< (nI v &&& 31)) = nI (2 ^ v) ∧ 2 ^ v ≤ 1024 := by decide
def fo_ca (cs : fo_C) (v : Nat) (cnt : Int32) : Int32 := if cnt = -1 then nI (fo_n cs v) else cnt
theorem fg_ar_F {g : hw_G} {w : hw_H} {h : Nat → Option Nat} {cs : fo_C} {F : Nat} {fs : List Value} {e : Option va_E} (H : fg_ar g w h cs) (hF : w F = some (.inr (3, fs))) : fg_ar g (va_up w F e) h cs := fg_ar_k (S := fun y => y = F) H (fun _ _ hy => va_up_ne _ _ hy) (fun y e1 he hy => by subst hy; rw [hF] at he; cases he; exact (by decide : (3 : Nat) ≠ 5))
set_option maxHeartbeats 4000000 in
set_option maxRecDepth 100000 in
theorem ct_Fo_satisfying (l : Launch) (g : hw_G) (w : hw_H) {F fa v : Nat} {cnt : Int32} {hf : Nat → Option Nat} {cs : List (Int32 × List Int32)} (hF : w F = some (fg_o (nI v) fa cs.length cnt)) (hn : cs.length ≤ 24) (hfa : w fa = some (ar_q g 24 hf)) (hcs : fg_ar g w hf cs) (hv : v ≤ 10) : hw_Mi l g ym_Fo_satisfying mw_Fo_satisfying (hw_R 2 0 0) [.ref F] w (fun r w' => r = fo_ca cs v cnt ∧ w' = va_up w F (some (fg_o (nI v) fa cs.length (fo_ca cs v cnt)))) := by
  refine hw_enteri (r := 2) rfl rfl (by simp [Value.category]) (Nat.le_of_ble_eq_true rfl) ?_
  intro p e s m args below meth c A X hr hlk hnm
  refine sg_Fo_satisfying_0 X (fun _ _ _ _ _ _ h => h) (hw_rti X hr hlk) ?_
  unfold vc_Fo_satisfying_0
  have nFf : F ≠ fa := by rintro rfl; rw [hF] at hfa; cases hfa
  unfold fo_ca
  by_cases hm : cnt = -1
  rotate_left
  · rw [if_neg hm]
    exact ⟨_, ⟨_, hF, rfl⟩, fun _ => ⟨_, ⟨_, hF, rfl⟩, hw_00, rfl, (hw_id hF).symm⟩, fun h => absurd h hm⟩
  rw [if_pos hm]
  obtain ⟨e1, e2⟩ := fo_sh v (by omega)
  generalize hR : fo_n cs v = RES
  have hfa1 : ∀ e, (va_up w F e) fa = _ := fun e => (va_up_ne _ _ nFf.symm).trans hfa
  have L1 : ∀ (d i a : Nat), i + d = 2 ^ v → a ≤ i → a + fo_cn cs v d i = RES → hw_Ji p l e (hw_R 2 0 0) s m args below meth c 3 g A (fun r w' => r = nI RES ∧ w' = va_up w F (some (fg_o (nI v) fa cs.length (nI RES)))) 0 0 15 [some (.ref F), some (.int (nI i)), none] [] (va_up w F (some (fg_o (nI v) fa cs.length (nI a)))) := by
    intro d
    induction d with
    | zero =>
      intro i a hi ha hres
      have hi2 : i = 2 ^ v := by omega
      have hres : a = RES := hres
      subst hres
      refine sg_Fo_satisfying_15 X (fun _ _ _ _ _ _ h => h) (hw_rti X hr hlk) ?_
      unfold vc_Fo_satisfying_15
      exact ⟨_, ⟨_, (va_up_self _ _ _), rfl⟩, fun _ => ⟨_, ⟨_, (va_up_self _ _ _), rfl⟩, hw_00, rfl, rfl⟩, fun h => absurd (by rw [e1, hi2]; exact Int32.le_refl _) h⟩
    | succ d ih =>
      intro i a hi ha hres
      rw [fo_cn.eq_2] at hres
      have hF1 : (va_up w F (some (fg_o (nI v) fa cs.length (nI a)))) F = _ := (va_up_self _ _ _)
      refine sg_Fo_satisfying_15 X (fun _ _ _ _ _ _ h => h) (hw_rti X hr hlk) ?_
      unfold vc_Fo_satisfying_15
      refine ⟨_, ⟨_, hF1, rfl⟩, fun h => absurd h (by rw [e1]; exact nI_ge (by omega) (by omega)), fun _ => ⟨_, ⟨_, hF1, rfl⟩, fun y hy => ⟨hw_o_of hF1 rfl rfl, hw_ci_0 (by decide) (by decide) (ct_Fo_isSatisfied l g _ hF1 hn (hfa1 _) (fg_ar_F hcs hF)) (Nat.zero_le _) (Nat.zero_le _) ?_⟩⟩⟩
      rintro r w2 ⟨hr, rfl⟩
      have hat : (nI i ||| (y <<< ((10 : Int32) &&& 31))) = fo_at v i := by rw [hy]; rfl
      rw [hat] at hr
      subst hr
      refine ⟨fun h => ?_, fun h => ⟨_, ⟨_, hF1, rfl⟩, _, ⟨_, hF1, Nat.le_of_ble_eq_true rfl, rfl⟩, ?_⟩⟩
      · rw [(hw_z_eq _).mp h, if_neg (by decide)] at hres
        rw [nI_1]
        exact ih (i + 1) a (by omega) (by omega) (by omega)
      · rw [(hw_z_ne _).mp h, if_pos rfl] at hres
        rw [nI_1, bx_uu]
        have := ih (i + 1) (a + 1) (by omega) (by omega) (by omega)
        rw [← nI_1 a] at this
        exact this
  exact ⟨_, ⟨_, hF, rfl⟩, fun h => absurd hm h, fun _ => ⟨_, ⟨_, hF, Nat.le_of_ble_eq_true rfl, rfl⟩, L1 (2 ^ v) 0 0 (by omega) (Nat.le_refl _) (by rw [← hR]; unfold fo_n; omega)⟩⟩
def fo_pi : fo_C → Int32 → Option Int32
  | [], k => some k
  | y :: ys, k => if cx_fo (cl_mask y.2) k = -1 then none else fo_pi ys (if cx_fo (cl_mask y.2) k = -2 then k else cx_fo (cl_mask y.2) k)
def fo_pk (k0 : Int32) (cont : Int32 → Option Int32) : Option Int32 → Option Int32
  | none => none
  | some k => if k = k0 then some k else cont k
def fo_po (cs : fo_C) : Nat → Int32 → Option Int32
  | 0, k => some k
  | d + 1, k => fo_pk k (fo_po cs d) (fo_pi cs k)
def fo_z : Option Int32 → Int32
  | none => -1
  | some k => k
set_option maxHeartbeats 4000000 in
set_option maxRecDepth 100000 in
theorem ct_Fo_forcedBy (l : Launch) (g : hw_G) (w : hw_H) {F fa v : Nat} {cnt : Int32} {hf : Nat → Option Nat} {cs : List (Int32 × List Int32)} {x : Int32} (hF : w F = some (fg_o (nI v) fa cs.length cnt)) (hn : cs.length ≤ 24) (hfa : w fa = some (ar_q g 24 hf)) (hcs : fg_ar g w hf cs) (hv : v ≤ 10) : hw_Mi l g ym_Fo_forcedBy mw_Fo_forcedBy (hw_R 3 0 0) [.ref F, .int x] w (fun r w' => r = fo_z (fo_po cs (v + 1) x) ∧ w' = w) := by
  refine hw_enteri (r := 5) rfl rfl (by simp [Value.category]) (Nat.le_of_ble_eq_true rfl) ?_
  intro p e s m args below meth c A X hr hlk hnm
  refine sg_Fo_forcedBy_0 X (fun _ _ _ _ _ _ h => h) (hw_rti X hr hlk) ?_
  unfold vc_Fo_forcedBy_0
  generalize hR : fo_po cs (v + 1) x = RES
  have L1 : ∀ (D rd : Nat) (k1 : Int32), rd + D = v + 1 → fo_po cs D k1 = RES → hw_Ji p l e (hw_R 3 0 0) s m args below meth c 7 g A (fun r w' => r = fo_z RES ∧ w' = w) 0 0 4 [some (.ref F), some (.int x), some (.int k1), some (.int (nI rd)), none, none, none] [] w := by
    intro D
    induction D with
    | zero =>
      intro rd k1 hrd hres
      refine sg_Fo_forcedBy_4 X (fun _ _ _ _ _ _ h => h) (hw_rti X hr hlk) ?_
      unfold vc_Fo_forcedBy_4
      exact ⟨_, ⟨_, hF, rfl⟩, fun _ => ⟨hw_00, (by rw [← hres]; rfl), rfl⟩, fun h => absurd (nI_lt (by omega) (by omega)) h⟩
    | succ D ihD =>
      intro rd k1 hrd hres
      rw [fo_po.eq_2] at hres
      refine sg_Fo_forcedBy_4 X (fun _ _ _ _ _ _ h => h) (hw_rti X hr hlk) ?_
      unfold vc_Fo_forcedBy_4
      refine ⟨_, ⟨_, hF, rfl⟩, fun h => ?_, fun _ => ?_⟩
      · rw [nI_ltI (by omega) (by omega)] at h
        omega
      have L2 : ∀ (d i : Nat) (k2 : Int32), i + d = cs.length → fo_pk k1 (fo_po cs D) (fo_pi (cs.drop i) k2) = RES → hw_Ji p l e (hw_R 3 0 0) s m args below meth c 7 g A (fun r w' => r = fo_z RES ∧ w' = w) 0 0 18 [some (.ref F), some (.int x), some (.int k2), some (.int (nI rd)), some (.int k1), some (.int (nI i)), none] [] w := by
        intro d
        induction d with
        | zero =>
          intro i k2 hi hres2
          have hi2 : i = cs.length := by omega
          subst hi2
          rw [List.drop_length] at hres2
          have hres2 : (if k2 = k1 then some k2 else fo_po cs D k2) = RES := hres2
          refine sg_Fo_forcedBy_18 X (fun _ _ _ _ _ _ h => h) (hw_rti X hr hlk) ?_
          unfold vc_Fo_forcedBy_18
          refine ⟨_, ⟨_, hF, rfl⟩, fun _ => ⟨fun h => ?_, fun h => ?_⟩, fun h => absurd (Int32.le_refl _) h⟩
          · rw [if_neg h] at hres2
            rw [nI_1]
            exact ihD (rd + 1) k2 (by omega) hres2
          · rw [if_pos h] at hres2
            exact ⟨hw_00, (by rw [← hres2]; rfl), rfl⟩
        | succ d ih =>
          intro i k2 hi hres2
          have hil : i < cs.length := by omega
          obtain ⟨kc, hc, la, f, c1, c2, c3⟩ := fg_ar_g hcs hil
          rw [fo_dr hil, fo_pi.eq_2] at hres2
          refine sg_Fo_forcedBy_18 X (fun _ _ _ _ _ _ h => h) (hw_rti X hr hlk) ?_
          unfold vc_Fo_forcedBy_18
          refine ⟨_, ⟨_, hF, rfl⟩, fun h => absurd h (nI_ge (by omega) (by omega)), fun _ => ⟨_, ⟨_, hF, rfl⟩, kc, ⟨_, _, hfa, vp_in_nI (by omega) (by omega), (by rw [nI_clamp (by omega)]; exact hc)⟩, _, ⟨_, c1, rfl⟩, hw_ci_0 (by decide) (by decide) (ct_Co_follow l g _) (Nat.zero_le _) (Nat.zero_le _) ?_⟩⟩
          rintro r w2 ⟨rfl, rfl⟩
          refine ⟨fun h1 => ⟨fun h2 => ?_, fun h2 => ?_⟩, fun h1 => ?_⟩
          · rw [if_neg h1, if_neg h2] at hres2
            rw [nI_1]
            exact ih (i + 1) _ (by omega) hres2
          · rw [if_neg h1, if_pos h2] at hres2
            rw [nI_1]
            exact ih (i + 1) _ (by omega) hres2
          · rw [if_pos h1] at hres2
            exact ⟨hw_00, (by rw [← hres2]; rfl), rfl⟩
      exact L2 cs.length 0 k1 (by omega) hres
  exact L1 (v + 1) 0 x (by omega) hR
