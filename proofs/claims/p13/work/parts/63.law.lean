section
variable {l : Launch} {g : hw_G} {y : MethodName} {wc : List Cond} {as : List Value} {w : hw_H} {d mc ms maxL k n : Nat}
theorem hw_RL (hd : d ≤ 11) (hL : maxL ≤ 21) : (hw_R d mc ms).frames + 1 ≤ room_1.frames ∧ 8 + (maxL + 11) + (hw_R d mc ms).locals ≤ room_1.locals := by
  refine ⟨?_, ?_⟩
  · show d + 1 ≤ 14
    omega
  · show 8 + (maxL + 11) + 40 * d ≤ 522
    omega
theorem hw_ciL {post : Int32 → hw_H → Prop} {KK : Nat → Nat → Int32 → hw_H → Prop} (hd : d ≤ 11) (hL : maxL ≤ 21) (hM : hw_Mi l g y wc (hw_R d mc ms) as w post) (hk : k + mc ≤ 600000) (hn : n + ms ≤ 7302250) (kk : ∀ (x : Int32) (w9 : hw_H), post x w9 → KK (k + mc) (n + ms) x w9) : hw_ci l g room_1 k n y wc maxL as w KK := ⟨hw_R d mc ms, post, hM, hw_RL hd hL, ⟨hk, hn⟩, kk⟩
theorem hw_cvL {post : hw_H → Prop} {KK : Nat → Nat → hw_H → Prop} (hd : d ≤ 11) (hL : maxL ≤ 21) (hM : hw_Mv l g y wc (hw_R d mc ms) as w post) (hk : k + mc ≤ 600000) (hn : n + ms ≤ 7302250) (kk : ∀ (w9 : hw_H), post w9 → KK (k + mc) (n + ms) w9) : hw_cv l g room_1 k n y wc maxL as w KK := ⟨hw_R d mc ms, post, hM, hw_RL hd hL, ⟨hk, hn⟩, kk⟩
end
section
variable {p : Program} {l : Launch} {e : Env} {s : State} {m : MethodId} {below : List Frame} {meth : Method} {c : Code} {g : hw_G} {b L : Nat} {xs : Nat → Int32}
abbrev lw_J (p : Program) (l : Launch) (e : Env) (s : State) (m : MethodId) (below : List Frame) (meth : Method) (c : Code) (g : hw_G) (b : Nat) : Nat → Nat → Nat → List (Option Value) → List Value → hw_H → Prop := hw_J p l e room_1 s m #[Value.ref b] below meth c (lw_Z below #[Value.ref b] s) 4 g (fun q => s.heap.size ≤ q)
theorem lw_rt (hx : p.tables.exec = Jvm.exec) (hb : c.code = code) (hr : meth.sig.returnType = ret) (hlk : meth.locks = false) : ∀ {k n pc : Nat} {lv : List (Option Value)} {x : Int32} {w : hw_H}, decode cb_La_law pc = .ok (.ireturn, 1) → (x = 1 ∧ k ≤ 600000 ∧ n ≤ 7302250) → lw_J p l e s m below meth c g b k n pc lv [.int x] w := by
  intro k n pc lv x w d h
  obtain ⟨rfl, hk, hn⟩ := h
  intro H locs ls ws h1 h2 h3 h4 h5
  refine va_forget (fun q hq => h5.2.2 q hq) ?_
  refine W.widen hk hn ?_
  exact lw_ret hx hb hr hlk d
end
def lw_S (g : hw_G) (w : hw_H) (X T TC P PA : Nat) (q r : Nat → Nat) : Prop := ∃ (len : Nat) (f : Nat → Int32) (F v : Nat) (cs : fo_C) (cnt : Int32) (t : sx_T) (vm kc : Nat) (ma lt : Nat → Int32), co_I g w X T TC P PA q len f F v cs cnt t ∧ mo_P g w r len f vm kc ma lt ∧ ((vm = v ∧ kc = cs.length ∧ mo_sb 0 kc (cs.map (·.2)) ma lt) ∧ (lw_X v cs t))
section
variable {p : Program} {l : Launch} {e : Env} {s : State} {m : MethodId} {below : List Frame} {meth : Method} {c : Code} {g : hw_G} {b L : Nat} {xs : Nat → Int32}
set_option maxHeartbeats 8000000 in
set_option maxRecDepth 100000 in
theorem lw_all (hX : hw_X p m c cb_La_law 4 s #[Value.ref b] mw_La_law "ProofCourtLaw" g (fun q => s.heap.size ≤ q)) (hx : p.tables.exec = Jvm.exec) (hb : c.code = code) (hr : meth.sig.returnType = ret) (hlk : meth.locks = false) (hscr : hw_scr s (fun q => s.heap.size ≤ q) b L xs) (hL : L ≤ 1536) {X T TC P PA : Nat} {q r : Nat → Nat} (dj : lw_D X T TC P PA q r) : ∀ (d j k n : Nat) (w : hw_H), j + d = 513 → k ≤ 30 + 55 * j → n ≤ 4000 + 300 * j → lw_S g w X T TC P PA q r → lw_J p l e s m below meth c g b k n 18 [some (.ref b), some (.ref X), some (.ref (r 9)), some (.int (nI (3 * j)))] [] w := by
  intro d
  induction d with
  | zero =>
    intro j k n w hj hk hn hS
    refine sg_La_law_18 hX (fun _ _ _ _ _ _ h => h) (lw_rt hx hb hr hlk) hscr ?_
    unfold vc_La_law_18
    exact ⟨fun _ => ⟨rfl, by omega, by omega⟩, fun h => absurd ((lw_c hL (by omega)).mpr (by omega)) h⟩
  | succ d ih =>
    intro j k n w hj hk hn hS
    have NX : ∀ (k' n' : Nat) (w' : hw_H), k' ≤ k + 55 → n' ≤ n + 300 → lw_S g w' X T TC P PA q r → lw_J p l e s m below meth c g b k' n' 322 [some (.ref b), some (.ref X), some (.ref (r 9)), some (.int (nI (3 * j)))] [] w' := by
      intro k' n' w' hk' hn' hS'
      refine sg_La_law_322 hX (fun _ _ _ _ _ _ h => h) (lw_rt hx hb hr hlk) hscr ?_
      unfold vc_La_law_322
      rw [show nI (3 * j) + (3 : Int32) = nI (3 * (j + 1)) from nI_add (3 * j) 3]
      exact ih (j + 1) k' n' w' (by omega) (by omega) (by omega) hS'
    refine sg_La_law_18 hX (fun _ _ _ _ _ _ h => h) (lw_rt hx hb hr hlk) hscr ?_
    unfold vc_La_law_18
    by_cases hend : L < 3 * j + 3
    · exact ⟨fun _ => ⟨rfl, by omega, by omega⟩, fun h => absurd ((lw_c hL (by omega)).mpr hend) h⟩
    refine ⟨fun h => absurd ((lw_c hL (by omega)).mp h) hend, fun _ => ?_⟩
    have v0 : vp_in (nI (3 * j)) L := vp_in_nI (by omega) (by omega)
    have v1 : vp_in (nI (3 * j) + (1 : Int32)) L := by rw [nI_1]; exact vp_in_nI (by omega) (by omega)
    have v2 : vp_in (nI (3 * j) + (2 : Int32)) L := by rw [show nI (3 * j) + (2 : Int32) = nI (3 * j + 2) from nI_add (3 * j) 2]; exact vp_in_nI (by omega) (by omega)
    have hS0 := hS
    obtain ⟨len, f, F, v, cs, cnt, t, vm, kc, ma, lt, HI, HP, hrel⟩ := hS
    have HP0 := HP
    have HI0 := HI
    obtain ⟨h0, wo, nx, sz, ft, hg, em, hn, pl, Lv, bg, en, nu, hh, kn, bf, h2, HM⟩ := HP
    have hM := HM.2.1
    obtain ⟨cX, ⟨cl1, cC⟩, ⟨sk, st, en9, nu9, cT⟩, ⟨ps, ph, pe, hpp, cP, cps, cpe, cPA, cpr⟩, ⟨cS, cok⟩, fa, hf, cF, cv, cn, cfa, ccs⟩ := HI
    refine ⟨v0, fun x1 _ => ⟨fun _ => ?_, fun _ => ?_, fun _ => ?_, fun _ => ?_, fun _ => ?_, fun _ => ?_, fun _ => ?_, fun _ => ?_, fun _ => ?_, fun _ => ?_, fun _ => ?_, fun _ => ?_, fun _ => NX _ _ _ (by omega) (by omega) hS0⟩⟩
    · refine ⟨v1, fun x2 e2 => ⟨v2, fun x3 e3 => ⟨hw_o_of cX rfl rfl, hw_ciL (d := 3) (by decide) (by decide) (ct_Co_type (x := x2) (n := x3) l g w cX cT cC cl1) (by omega) (by omega) ?_⟩⟩⟩
      rintro r1 w1 hp1
      obtain ⟨HI1, hK1⟩ := co_I_ty HI0 hp1
      have HP1 := mo_P_co HI0 HP0 dj hK1
      have HP1b := HP1
      obtain ⟨h0, wo, nx, sz, ft, hg, em, hn, pl, Lv, bg, en, nu, hh, kn, bf, h2, HM⟩ := HP1
      have hM := HM.2.1
      refine ⟨v1, fun y2 f2 => ⟨v2, fun y3 f3 => ⟨hw_o_of hM rfl rfl, hw_ciL (d := 2) (by decide) (by decide) (ct_Mo_type (x := y2) (n := y3) l g w1 hM HM.2.2.1 h0.1) (by omega) (by omega) ?_⟩⟩⟩
      rintro r2 w2 hp2
      have e4 : y2 = x2 := f2.trans e2.symm
      have e5 : y3 = x3 := f3.trans e3.symm
      subst e4
      subst e5
      obtain ⟨HP2, hK2⟩ := mo_P_ty h0 h2 HM hp2
      exact NX _ _ _ (by omega) (by omega) ⟨_, _, _, _, _, _, _, _, _, _, _, co_I_mo HI1 HP1b dj hK2, HP2, hrel⟩
    · refine ⟨hw_o_of cX rfl rfl, hw_ciL (d := 11) (by decide) (by decide) (ct_Co_read l g w HI0) (by omega) (by omega) ?_⟩
      rintro r1 w1 ⟨hK1, hc1⟩
      have HP1 := mo_P_co HI0 HP0 dj hK1
      have HP1b := HP1
      obtain ⟨h0, wo, nx, sz, ft, hg, em, hn, pl, Lv, bg, en, nu, hh, kn, bf, h2, HM⟩ := HP1
      have hM := HM.2.1
      refine ⟨hw_o_of hM rfl rfl, hw_ciL (d := 5) (by decide) (by decide) (ct_Mo_read l g w1 HM h0.1 h0.2.2.2) (by omega) (by omega) ?_⟩
      rintro r2 w2 ⟨hK2, nW, bg1, en1, hnW, hn80, hwl, hc2⟩
      have W := wf_of h0.1 hnW hn80 hwl
      obtain ⟨rs1, rs2⟩ := rd_same W
      rcases hc1 with ⟨p0, g1, e1, HI1⟩ | ⟨p0, v', F', cs', fc, g1, g2, e1, g3, HI1⟩
      · obtain ⟨s1, s2⟩ := rs1 p0 g1
        rcases hc2 with ⟨k', b1, b2, b3, nx', ft', ma', lt', ha', hk65, H2⟩ | ⟨v2, cs2, b1, -⟩
        rotate_left
        · rw [s1] at b1; cases b1
        have HP2 : mo_P g w2 r 0 f vm kc ma' lt' := ⟨⟨Nat.zero_le _, h0.2.1, h0.2.2.1, ha'⟩, _, _, _, _, _, _, _, _, Lv, _, _, _, _, _, _, h2, H2⟩
        have hrel2 : vm = v ∧ kc = cs.length ∧ mo_sb 0 kc (cs.map (·.2)) ma' lt' := ⟨hrel.1.1, hrel.1.2.1, mo_sb_k hrel.1.2.2 (fun i hi => hk65.1 _ (by have := h0.2.2.1; omega)) (fun i j hi hj => hk65.2 _ (by have := h0.2.2.1; omega))⟩
        exact NX _ _ _ (by omega) (by omega) ⟨_, _, _, _, _, _, _, _, _, _, _, co_I_mo HI1 HP1b dj hK2, HP2, ⟨hrel2, hrel.2⟩⟩
      · have s1 := rs2 _ _ _ g1
        rcases hc2 with ⟨k', b1, -⟩ | ⟨v2, cs2, b1, b2, hv2, hc2, b3, nx', ma', lt', nu', ha', hsb, H2⟩
        · rw [s1] at b1; cases b1
        rw [s1] at b1
        have b4 := Option.some.inj b1
        have b5 : nI v' = nI v2 := congrArg Prod.fst b4
        have b6 : cs'.map (·.2) = cs2 := congrArg Prod.snd b4
        have b7 : v' = v2 := (nI_eq (by have := HI1.2.2.2.2.2; obtain ⟨_, _, _, z, _⟩ := this; omega) (by omega)).mp b5
        subst b7
        subst b6
        have HP2 : mo_P g w2 r 0 f v' (cs'.map (·.2)).length ma' lt' := ⟨⟨Nat.zero_le _, hv2, hc2, ha'⟩, _, _, _, _, _, _, _, _, _, _, _, _, _, _, _, ⟨Nat.le_trans hc2 (by decide), Or.inl rfl⟩, H2⟩
        exact NX _ _ _ (by omega) (by omega) ⟨_, _, _, _, _, _, _, _, _, _, _, co_I_mo HI1 HP1b dj hK2, HP2, ⟨⟨rfl, List.length_map _, hsb⟩, ⟨fg_in_g g1 (by omega), fc, t, g3, Or.inl rfl⟩⟩⟩
    · refine ⟨hw_o_of cX rfl rfl, hw_ciL (d := 1) (by decide) (by decide) (ct_Co_variables (a := 0) l g w cX cF) (by omega) (by omega) ?_⟩
      rintro r1 w1 ⟨hr1, rfl⟩
      refine ⟨hw_o_of hM rfl rfl, hw_ciL (d := 1) (by decide) (by decide) (ct_Mo_variables l g _ HM) (by omega) (by omega) ?_⟩
      rintro r2 w2 ⟨hr2, rfl⟩
      exact NX _ _ _ (by omega) (by omega) hS0
    · refine ⟨hw_o_of cX rfl rfl, hw_ciL (d := 1) (by decide) (by decide) (ct_Co_live l g w cX cP) (by omega) (by omega) ?_⟩
      rintro r1 w1 ⟨hr1, rfl⟩
      refine ⟨hw_o_of hM rfl rfl, hw_ciL (d := 1) (by decide) (by decide) (ct_Mo_live l g _ HM) (by omega) (by omega) ?_⟩
      rintro r2 w2 ⟨hr2, rfl⟩
      exact NX _ _ _ (by omega) (by omega) hS0
    · refine ⟨v1, fun x2 e2 => ⟨v2, fun x3 e3 => ⟨hw_o_of cX rfl rfl, hw_ciL (d := 2) (by decide) (by decide) (ct_Co_literal l g w HI0) (by omega) (by omega) ?_⟩⟩⟩
      rintro r1 w1 rfl
      refine ⟨v1, fun y2 f2 => ⟨v2, fun y3 f3 => ⟨hw_o_of hM rfl rfl, hw_ciL (d := 2) (by decide) (by decide) (ct_Mo_literal l g _ HM h2.1 h0.2.2.2) (by omega) (by omega) ?_⟩⟩⟩
      rintro r2 w2 rfl
      exact NX _ _ _ (by omega) (by omega) hS0
    · refine ⟨hw_o_of cX rfl rfl, hw_ciL (d := 6) (by decide) (by decide) (ct_Co_solve l g w HI0) (by omega) (by omega) ?_⟩
      rintro r1 w1 ⟨hr1, HI1, hK1⟩
      have HP1 := mo_P_co HI0 HP0 dj hK1
      have HP1b := HP1
      obtain ⟨h0, wo, nx, sz, ft, hg, em, hn, pl, Lv, bg, en, nu, hh, kn, bf, h2, HM⟩ := HP1
      have hM := HM.2.1
      refine ⟨hw_o_of hM rfl rfl, hw_ciL (d := 4) (by decide) (by decide) (ct_Mo_solve l g w1 HM h0.2.2.1 h0.2.2.2 h0.2.1) (by omega) (by omega) ?_⟩
      rintro r2 w2 ⟨hr2, rfl⟩
      exact NX _ _ _ (by omega) (by omega) ⟨_, _, _, _, _, _, _, _, _, _, _, HI1, HP1b, ⟨hrel.1, (lw_X_F cv cn hrel.2).1⟩⟩
    · refine ⟨v1, fun x2 e2 => ⟨hw_o_of cX rfl rfl, hw_ciL (d := 6) (by decide) (by decide) (ct_Co_value l g w HI0) (by omega) (by omega) ?_⟩⟩
      rintro r1 w1 ⟨hK1, hva, hvb⟩
      have HP1 := mo_P_co HI0 HP0 dj hK1
      have HP1b := HP1
      obtain ⟨h0, wo, nx, sz, ft, hg, em, hn, pl, Lv, bg, en, nu, hh, kn, bf, h2, HM⟩ := HP1
      have hM := HM.2.1
      refine ⟨v1, fun y2 f2 => ⟨hw_o_of hM rfl rfl, hw_ciL (d := 4) (by decide) (by decide) (ct_Mo_value l g w1 HM h0.2.2.1 h0.2.2.2 h0.2.1) (by omega) (by omega) ?_⟩⟩
      rintro r2 w2 ⟨hr2, rfl⟩
      have e4 : y2 = x2 := f2.trans e2.symm
      subst e4
      by_cases hcd : (y2 < 1 ∨ nI v < y2)
      · obtain ⟨e1, ew⟩ := hva hcd
        subst ew
        exact NX _ _ _ (by omega) (by omega) ⟨_, _, _, _, _, _, _, _, _, _, _, HI0, HP1b, hrel⟩
      · obtain ⟨HI1, e1⟩ := hvb hcd
        exact NX _ _ _ (by omega) (by omega) ⟨_, _, _, _, _, _, _, _, _, _, _, HI1, HP1b, ⟨hrel.1, (lw_X_F cv cn hrel.2).1⟩⟩
    · refine ⟨hw_o_of cX rfl rfl, hw_ciL (d := 3) (by decide) (by decide) (ct_Co_count l g w HI0) (by omega) (by omega) ?_⟩
      rintro r1 w1 ⟨hr1, HI1, hK1⟩
      have HP1 := mo_P_co HI0 HP0 dj hK1
      have HP1b := HP1
      obtain ⟨h0, wo, nx, sz, ft, hg, em, hn, pl, Lv, bg, en, nu, hh, kn, bf, h2, HM⟩ := HP1
      have hM := HM.2.1
      refine ⟨hw_o_of hM rfl rfl, hw_ciL (d := 3) (by decide) (by decide) (ct_Mo_count l g w1 HM h0.2.2.1 h0.2.2.2 h0.2.1) (by omega) (by omega) ?_⟩
      rintro r2 w2 ⟨hr2, rfl⟩
      exact NX _ _ _ (by omega) (by omega) ⟨_, _, _, _, _, _, _, _, _, _, _, HI1, HP1b, hrel⟩
    · refine ⟨v1, fun x2 e2 => ⟨v2, fun x3 e3 => ⟨hw_o_of cX rfl rfl, hw_ciL (d := 4) (by decide) (by decide) (ct_Co_forced l g w HI0) (by omega) (by omega) ?_⟩⟩⟩
      rintro r1 w1 ⟨hr1, rfl⟩
      refine ⟨v1, fun y2 f2 => ⟨v2, fun y3 f3 => ⟨hw_o_of hM rfl rfl, hw_ciL (d := 3) (by decide) (by decide) (ct_Mo_forced l g _ HM h0.2.2.1 h0.2.2.2 h0.2.1) (by omega) (by omega) ?_⟩⟩⟩
      rintro r2 w2 ⟨kn', H2, hK2⟩
      exact NX _ _ _ (by omega) (by omega) ⟨_, _, _, _, _, _, _, _, _, _, _, co_I_mo HI0 HP0 dj hK2, ⟨h0, wo, nx, sz, ft, hg, em, hn, pl, Lv, bg, en, nu, hh, kn', bf, h2, H2⟩, hrel⟩
    · refine ⟨hw_o_of cX rfl rfl, hw_ciL (d := 11) (by decide) (by decide) (ct_Co_line l g w HI0) (by omega) (by omega) ?_⟩
      rintro r1 w1 ⟨hK1, HI1⟩
      have HP1 := mo_P_co HI0 HP0 dj hK1
      have HP1b := HP1
      obtain ⟨h0, wo, nx, sz, ft, hg, em, hn, pl, Lv, bg, en, nu, hh, kn, bf, h2, HM⟩ := HP1
      have hM := HM.2.1
      refine ⟨hw_o_of hM rfl rfl, hw_ciL (d := 7) (by decide) (by decide) (ct_Mo_line l g w1 HM h0.1 h0.2.1 h2.1 h2.2 h0.2.2.2) (by omega) (by omega) ?_⟩
      rintro r2 w2 ⟨wo', nx', sz', ft', hg', em', hn', pl', L', bg', en', ma', lt', nu', hh', kn', bf', a1, a2, a3, a4, H2, hK2⟩
      exact NX _ _ _ (by omega) (by omega) ⟨_, _, _, _, _, _, _, _, _, _, _, co_I_mo HI1 HP1b dj hK2, ⟨⟨Nat.zero_le _, h0.2.1, h0.2.2.1, a3⟩, wo', nx', sz', ft', hg', em', hn', pl', L', bg', en', nu', hh', kn', bf', ⟨a1, a2⟩, H2⟩, ⟨⟨hrel.1.1, hrel.1.2.1, mo_sb_k hrel.1.2.2 (fun i hi => a4.1 _ (by have := h0.2.2.1; omega)) (fun i j hi hj => a4.2 _ (by have := h0.2.2.1; omega))⟩, hrel.2⟩⟩
    · refine ⟨hw_o_of cX rfl rfl, hw_ciL (d := 1) (by decide) (by decide) (ct_Co_refuted l g w cX cP cpe) (by omega) (by omega) ?_⟩
      rintro r1 w1 ⟨hr1, rfl⟩
      refine ⟨hw_o_of hM rfl rfl, hw_ciL (d := 1) (by decide) (by decide) (ct_Mo_refuted l g _ HM h2.2) (by omega) (by omega) ?_⟩
      rintro r2 w2 ⟨hr2, rfl⟩
      exact NX _ _ _ (by omega) (by omega) hS0
    · refine ⟨hw_o_of cX rfl rfl, hw_ciL (d := 6) (by decide) (by decide) (ct_Co_proves l g w HI0) (by omega) (by omega) ?_⟩
      rintro r1 w1 ⟨hr1, HI1, hK1⟩
      have HP1 := mo_P_co HI0 HP0 dj hK1
      have HP1b := HP1
      obtain ⟨h0, wo, nx, sz, ft, hg, em, hn, pl, Lv, bg, en, nu, hh, kn, bf, h2, HM⟩ := HP1
      have hM := HM.2.1
      refine ⟨hw_o_of hM rfl rfl, hw_ciL (d := 4) (by decide) (by decide) (ct_Mo_proves l g w1 HM h0.2.2.1 h0.2.2.2 h0.2.1) (by omega) (by omega) ?_⟩
      rintro r2 w2 ⟨hr2, rfl⟩
      refine ⟨fun _ => ?_, fun hne => absurd (by
        obtain ⟨⟨rfl, rfl, hsb⟩, hx⟩ := hrel
        rw [hr1, hr2]
        exact proves_same cv cn hx hsb) hne⟩
      exact NX _ _ _ (by omega) (by omega) ⟨_, _, _, _, _, _, _, _, _, _, _, HI1, HP1b, ⟨hrel.1, (lw_X_F cv cn hrel.2).1⟩⟩
end
