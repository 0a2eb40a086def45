theorem sx_as_f {t : sx_T} {x r : Int32} : sx_fc (sx_as t x r) = sx_fc t ∧ sx_sz (sx_as t x r) = sx_sz t ∧ sx_vv (sx_as t x r) = sx_vv t ∧ sx_lv (sx_as t x r) = sx_lv t ∧ sx_fk (sx_as t x r) = sx_fk t := by
  unfold sx_as
  split <;> exact ⟨rfl, rfl, rfl, rfl, rfl⟩
theorem sx_as_t {t : sx_T} {x r : Int32} (h : sx_ts t ≤ 10) : sx_ts (sx_as t x r) ≤ 10 := by
  unfold sx_as
  split
  · show sx_ts t + 1 ≤ 10; omega
  · exact h
abbrev sx_R : Type := Option Nat × sx_T
def sx_pi : Nat → Nat → sx_T → sx_R
  | 0, _, t => (none, t)
  | d + 1, i, t => if cx_fo (sx_fc t i) (sx_kn t) = -1 then (some i, t) else if cx_fo (sx_fc t i) (sx_kn t) = -2 then sx_pi d (i + 1) t else sx_pi d (i + 1) (sx_as t (cx_fo (sx_fc t i) (sx_kn t) &&& (sx_kn t ^^^ (-1 : Int32))) (nI i))
def sx_pk (k0 : Int32) (cont : sx_T → sx_R) (r : sx_R) : sx_R := match r with
  | (some i, t) => (some i, t)
  | (none, t) => if sx_kn t = k0 then (none, t) else cont t
def sx_po : Nat → sx_T → sx_R
  | 0, t => (none, t)
  | d + 1, t => sx_pk (sx_kn t) (sx_po d) (sx_pi (sx_sz t) 0 t)
def sx_rz : Option Nat → Int32
  | none => -1
  | some i => nI i
set_option maxHeartbeats 4000000 in
set_option maxRecDepth 100000 in
theorem ct_Se_propagate (l : Launch) (g : hw_G) (w : hw_H) {q : Nat → Nat} {t : sx_T} (hI : sx_I g w q t) (ht : sx_ts t ≤ 10) (hz : sx_sz t ≤ 2072) (hv : sx_vv t ≤ 10) : hw_Mi l g ym_Se_propagate mw_Se_propagate (hw_R 3 0 0) [.ref (q 0)] w (fun r w' => r = sx_rz (sx_po (sx_vv t + 1) t).1 ∧ sx_I g w' q (sx_po (sx_vv t + 1) t).2 ∧ sx_K w w' q ∧ ∀ i, (sx_po (sx_vv t + 1) t).1 = some i → i < sx_sz t) := by
  refine hw_enteri (r := 4) rfl rfl (by simp [Value.category]) (Nat.le_of_ble_eq_true rfl) ?_
  intro p e s m args below meth c A X hr hlk hnm
  refine sg_Se_propagate_0 X (fun _ _ _ _ _ _ h => h) (hw_rti X hr hlk) ?_
  unfold vc_Se_propagate_0
  generalize hR : sx_po (sx_vv t + 1) t = RES
  have L2 : ∀ (D rd : Nat) (t1 : sx_T) (w1 : hw_H), rd + D = sx_vv t + 1 → sx_I g w1 q t1 → sx_K w w1 q → sx_ts t1 ≤ 10 → sx_sz t1 = sx_sz t → sx_vv t1 = sx_vv t → sx_po D t1 = RES → hw_Ji p l e (hw_R 3 0 0) s m args below meth c 5 g A (fun r w' => r = sx_rz RES.1 ∧ sx_I g w' q RES.2 ∧ sx_K w w' q ∧ ∀ i, RES.1 = some i → i < sx_sz t) 0 0 2 [some (.ref (q 0)), some (.int (nI rd)), none, none, none] [] w1 := by
    intro D
    induction D with
    | zero =>
      intro rd t1 w1 hrd h1 hk ht1 hs1 hv1 hres
      have h0 := h1.2.1
      refine sg_Se_propagate_2 X (fun _ _ _ _ _ _ h => h) (hw_rti X hr hlk) ?_
      unfold vc_Se_propagate_2
      refine ⟨_, ⟨_, h0, rfl⟩, fun _ => ⟨hw_00, ?_, ?_, hk, ?_⟩, fun h => absurd (nI_lt (by omega) (by omega)) h⟩
      · rw [← hres]; rfl
      · rw [← hres]; exact h1
      · rw [← hres]; intro i z; cases z
    | succ D ihD =>
      intro rd t1 w1 hrd h1 hk ht1 hs1 hv1 hres
      have h0 := h1.2.1
      refine sg_Se_propagate_2 X (fun _ _ _ _ _ _ h => h) (hw_rti X hr hlk) ?_
      unfold vc_Se_propagate_2
      refine ⟨_, ⟨_, h0, rfl⟩, fun h => ?_, fun _ => ⟨_, ⟨_, h0, rfl⟩, ?_⟩⟩
      · rw [nI_ltI (by omega) (by omega)] at h
        omega
      have L17 : ∀ (d i : Nat) (t2 : sx_T) (w2 : hw_H), i + d = sx_sz t → sx_I g w2 q t2 → sx_K w w2 q → sx_ts t2 ≤ 10 → sx_sz t2 = sx_sz t → sx_vv t2 = sx_vv t → sx_pk (sx_kn t1) (sx_po D) (sx_pi d i t2) = RES → hw_Ji p l e (hw_R 3 0 0) s m args below meth c 5 g A (fun r w' => r = sx_rz RES.1 ∧ sx_I g w' q RES.2 ∧ sx_K w w' q ∧ ∀ i, RES.1 = some i → i < sx_sz t) 0 0 17 [some (.ref (q 0)), some (.int (nI rd)), some (.int (sx_kn t1)), some (.int (nI i)), none] [] w2 := by
        intro d
        induction d with
        | zero =>
          intro i t2 w2 hi h2 hk2 ht2 hs2 hv2 hres2
          have g0 := h2.2.1
          have hres2 : (if sx_kn t2 = sx_kn t1 then (none, t2) else sx_po D t2) = RES := hres2
          refine sg_Se_propagate_17 X (fun _ _ _ _ _ _ h => h) (hw_rti X hr hlk) ?_
          unfold vc_Se_propagate_17
          refine ⟨_, ⟨_, g0, rfl⟩, fun _ => ⟨_, ⟨_, g0, rfl⟩, fun hne => ?_, fun heq => ?_⟩, fun h => absurd (nI_le (by omega) (by omega)) h⟩
          · rw [if_neg hne] at hres2
            rw [nI_1]
            exact ihD (rd + 1) t2 w2 (by omega) h2 hk2 ht2 hs2 hv2 hres2
          · rw [if_pos heq] at hres2
            refine ⟨hw_00, ?_, ?_, hk2, ?_⟩
            · rw [← hres2]; rfl
            · rw [← hres2]; exact h2
            · rw [← hres2]; intro i z; cases z
        | succ d ih =>
          intro i t2 w2 hi h2 hk2 ht2 hs2 hv2 hres2
          have g0 := h2.2.1
          refine sg_Se_propagate_17 X (fun _ _ _ _ _ _ h => h) (hw_rti X hr hlk) ?_
          unfold vc_Se_propagate_17
          refine ⟨_, ⟨_, g0, rfl⟩, fun h => absurd h (nI_ge (by omega) (by omega)), fun _ => ⟨_, ⟨_, g0, rfl⟩, _, ⟨_, _, h2.2.2.1, vp_in_nI (by omega) (by omega), rfl⟩, _, ⟨_, g0, rfl⟩, ?_⟩⟩
          rw [nI_clamp (by omega)]
          refine hw_ci_0 (by decide) (by decide) (ct_Co_follow l g _) (Nat.zero_le _) (Nat.zero_le _) ?_
          rintro r w3 ⟨rfl, rfl⟩
          rw [sx_pi] at hres2
          refine ⟨fun hn1 => ⟨fun he2 => ?_, fun hn2 => ⟨_, ⟨_, g0, rfl⟩, hw_o_of g0 rfl rfl, hw_cv_0 (by decide) (by decide) (ct_Se_assume l g _ h2 ht2) (Nat.zero_le _) (Nat.zero_le _) ?_⟩⟩, fun he1 => ⟨hw_00, ?_⟩⟩
          · rw [if_neg hn1, if_pos he2] at hres2
            rw [nI_1]
            exact ih (i + 1) t2 _ (by omega) h2 hk2 ht2 hs2 hv2 hres2
          · rintro w4 ⟨i4, k4⟩
            rw [if_neg hn1, if_neg hn2] at hres2
            rw [nI_1]
            have af := sx_as_f (t := t2) (x := cx_fo (sx_fc t2 i) (sx_kn t2) &&& (sx_kn t2 ^^^ (-1 : Int32))) (r := nI i)
            exact ih (i + 1) _ _ (by omega) i4 (sx_K_t hk2 k4) (sx_as_t ht2) (af.2.1.trans hs2) (af.2.2.1.trans hv2) hres2
          · rw [if_pos he1] at hres2
            have hres2 : ((some i, t2) : sx_R) = RES := hres2
            refine ⟨?_, ?_, hk2, ?_⟩
            · rw [← hres2]; rfl
            · rw [← hres2]; exact h2
            · rw [← hres2]; intro j z; cases z; omega
      refine L17 (sx_sz t) 0 t1 w1 (by omega) h1 hk ht1 hs1 hv1 ?_
      rw [← hs1]
      exact hres
  exact L2 (sx_vv t + 1) 0 t w (by omega) hI sx_K_r ht rfl rfl hR
