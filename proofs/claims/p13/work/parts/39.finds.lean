def sx_dn (u : sx_T) : sx_T := (sx_fc u, sx_sz u, sx_vv u, true, true, sx_re u, sx_sh u, sx_kn u, sx_ft u, sx_fr u, sx_ts u, sx_fk u, sx_lv u, sx_fh u, sx_hc u)
def sx_s1 (r : sx_R) : sx_T := match r with
  | (some j, u) => sx_rs u j
  | (none, u) => if sx_vv u ≤ sx_ts u then sx_dn u else sx_de u
def sx_st (t : sx_T) : sx_T := sx_s1 (sx_po (sx_vv t + 1) t)
def sx_fs : Nat → sx_T → sx_T
  | 0, t => t
  | d + 1, t => if sx_fi t = true then t else sx_fs d (sx_st t)
/-- the search as it stands when it has ended -/
def sx_F (n : Nat) (t : sx_T) : sx_T := sx_fs n t
theorem sx_po_z : ∀ (d : Nat) (t : sx_T), sx_sz (sx_po d t).2 = sx_sz t ∧ True := by
  have hp : ∀ (d i : Nat) (t : sx_T), sx_sz (sx_pi d i t).2 = sx_sz t := by
    intro d
    induction d with
    | zero => intro i t; rfl
    | succ d ih =>
      intro i t
      rw [sx_pi.eq_2]
      by_cases h1 : cx_fo (sx_fc t i) (sx_kn t) = -1
      · rw [if_pos h1]
      rw [if_neg h1]
      by_cases h2 : cx_fo (sx_fc t i) (sx_kn t) = -2
      · rw [if_pos h2]; exact ih _ _
      · rw [if_neg h2]; exact (ih _ _).trans sx_as_f.2.1
  intro d
  induction d with
  | zero => intro t; exact ⟨rfl, trivial⟩
  | succ d ih =>
    intro t
    rw [sx_po.eq_2]
    have h2 := hp (sx_sz t) 0 t
    generalize sx_pi (sx_sz t) 0 t = R at h2 ⊢
    obtain ⟨o, t2⟩ := R
    cases o with
    | some i => exact ⟨h2, trivial⟩
    | none =>
      show sx_sz (if sx_kn t2 = sx_kn t then ((none, t2) : sx_R) else sx_po d t2).2 = _ ∧ True
      by_cases e : sx_kn t2 = sx_kn t
      · rw [if_pos e]; exact ⟨h2, trivial⟩
      · rw [if_neg e]; exact ⟨(ih t2).1.trans h2, trivial⟩
set_option maxHeartbeats 4000000 in
set_option maxRecDepth 100000 in
theorem ct_Se_finds (l : Launch) (g : hw_G) (w : hw_H) {q : Nat → Nat} {t : sx_T} (hI : sx_I g w q t) (hok : sx_ok t) : hw_Mi l g ym_Se_finds mw_Se_finds (hw_R 5 0 0) [.ref (q 0)] w (fun r w' => r = hw_z (sx_sa (sx_F 22539 t)) ∧ sx_I g w' q (sx_F 22539 t) ∧ sx_ok (sx_F 22539 t) ∧ sx_K w w' q) := by
  refine hw_enteri (r := 2) rfl rfl (by simp [Value.category]) (Nat.le_of_ble_eq_true rfl) ?_
  intro p e s m args below meth c A X hr hlk hnm
  refine sg_Se_finds_0 X (fun _ _ _ _ _ _ h => h) (hw_rtz X hr hlk) ?_
  unfold vc_Se_finds_0
  generalize hR : sx_F 22539 t = RES
  have L1 : ∀ (d i : Nat) (t1 : sx_T) (w1 : hw_H), i + d = 22539 → sx_I g w1 q t1 → sx_K w w1 q → sx_ok t1 → sx_F d t1 = RES → hw_Ji p l e (hw_R 5 0 0) s m args below meth c 3 g A (fun r w' => r = hw_z (sx_sa RES) ∧ sx_I g w' q RES ∧ sx_ok RES ∧ sx_K w w' q) 0 0 2 [some (.ref (q 0)), some (.int (nI i)), none] [] w1 := by
    intro d
    induction d with
    | zero =>
      intro i t1 w1 hi h1 hk ho hres
      have hres : t1 = RES := hres
      subst hres
      refine sg_Se_finds_2 X (fun _ _ _ _ _ _ h => h) (hw_rtz X hr hlk) ?_
      unfold vc_Se_finds_2
      exact ⟨fun _ => ⟨_, ⟨_, h1.2.1, rfl⟩, hw_00, hw_z_b _, rfl, h1, ho, hk⟩, fun h => absurd (nI_le (a := 22539) (by omega) (by omega)) h⟩
    | succ d ih =>
      intro i t1 w1 hi h1 hk ho hres
      have h0 := h1.2.1
      unfold sx_F at hres
      rw [sx_fs.eq_2] at hres
      refine sg_Se_finds_2 X (fun _ _ _ _ _ _ h => h) (hw_rtz X hr hlk) ?_
      unfold vc_Se_finds_2
      refine ⟨fun h => absurd h (nI_ge (b := 22539) (by omega) (by omega)), fun _ => ⟨_, ⟨_, h0, rfl⟩, fun hf => ?_, fun hf => ?_⟩⟩
      · rw [hw_z_ne] at hf
        rw [if_pos hf] at hres
        subst hres
        exact ⟨_, ⟨_, h0, rfl⟩, hw_00, hw_z_b _, rfl, h1, ho, hk⟩
      rw [hw_z_eq] at hf
      rw [if_neg (by simp [hf])] at hres
      obtain ⟨o1, o2, o3, o4, o5, o6, o7⟩ := ho
      refine ⟨hw_o_of h0 rfl rfl, hw_ci_0 (by decide) (by decide) (ct_Se_propagate l g _ h1 o3 o1 o2) (Nat.zero_le _) (Nat.zero_le _) ?_⟩
      rintro r w2 ⟨hr2, i2, k2, hlt⟩
      have ok2 := sx_ok_po (sx_vv t1 + 1) t1 ⟨o1, o2, o3, o4, o5, o6, o7⟩
      unfold sx_st at hres
      generalize sx_po (sx_vv t1 + 1) t1 = R at hr2 i2 hlt ok2 hres
      obtain ⟨o, u⟩ := R
      have ok9 : sx_ok u := ok2
      have k3 := sx_K_t hk k2
      cases o with
      | some j =>
        have hj := hlt j rfl
        have hr2 : r = nI j := hr2
        subst hr2
        obtain ⟨p1, p2, p3, p4, p5, p6, p7⟩ := ok9
        refine ⟨fun z => absurd z ?_, fun _ => ⟨hw_o_of i2.2.1 rfl rfl, hw_cv_0 (by decide) (by decide) (ct_Se_resolve l g _ i2 p3 p5 p1 (by omega) p7) (Nat.zero_le _) (Nat.zero_le _) ?_⟩⟩
        · intro z
          have h8 := nI_pos (n := j) (by omega)
          rw [z] at h8
          exact h8 (by decide)
        rintro w3 ⟨i3, k4⟩
        rw [nI_1]
        exact ih (i + 1) _ w3 (by omega) i3 (sx_K_t k3 k4) (sx_ok_rs ⟨p1, p2, p3, p4, p5, p6, p7⟩) hres
      | none =>
        have hr2 : r = -1 := hr2
        subst hr2
        have ok3 := ok9
        obtain ⟨p1, p2, p3, p4, p5, p6, p7⟩ := ok9
        have hres : sx_fs d (if sx_vv u ≤ sx_ts u then sx_dn u else sx_de u) = RES := hres
        have i2 : sx_I g w2 q u := i2
        refine ⟨fun _ => ⟨_, ⟨_, i2.2.1, rfl⟩, _, ⟨_, i2.2.1, rfl⟩, fun hle => ⟨_, ⟨_, i2.2.1, Nat.le_of_ble_eq_true rfl, rfl⟩, Or.inr rfl, _, ⟨_, (va_up_self _ _ _), Nat.le_of_ble_eq_true rfl, rfl⟩, Or.inr rfl, ?_⟩, fun hle => ⟨hw_o_of i2.2.1 rfl rfl, hw_cv_0 (by decide) (by decide) (ct_Se_decide l g _ i2 p3 p2 p5) (Nat.zero_le _) (Nat.zero_le _) ?_⟩⟩, fun z => absurd rfl z⟩
        · rw [nI_leI (by show sx_vv u < _; omega) (by show sx_ts u < _; omega)] at hle
          rw [if_pos hle] at hres
          rw [bx_uu, nI_1]
          have i9 := sx_u0 (t' := sx_dn u) i2 rfl rfl rfl rfl rfl
          exact ih (i + 1) _ _ (by omega) i9 (sx_K_u k3 (by decide)) ok3 hres
        · rintro w3 ⟨i3, k4⟩
          rw [nI_leI (by show sx_vv u < _; omega) (by show sx_ts u < _; omega)] at hle
          rw [if_neg hle] at hres
          rw [nI_1]
          exact ih (i + 1) _ w3 (by omega) i3 (sx_K_t k3 k4) (sx_ok_de ok3) hres
  exact L1 22539 0 t w rfl hI sx_K_r hok hR
