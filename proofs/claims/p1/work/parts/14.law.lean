section
variable {l : Launch} {g : hw_G} {y : MethodName} {wc : List Cond} {as : List Value} {w : hw_H} {d mc ms maxL k n : Nat}
theorem hw_RL (hd : d ≤ 11) (hL : maxL ≤ 21) : (hw_R d mc ms).frames + 1 ≤ room_1.frames ∧ 8 + (maxL + 11) + (hw_R d mc ms).locals ≤ room_1.locals := by
  refine ⟨?_, ?_⟩
  · show d + 1 ≤ 14
    omega
  · show 8 + (maxL + 11) + 40 * d ≤ 522
    omega
theorem hw_ciL {post : Int32 → hw_H → Prop} {KK : Nat → Nat → Int32 → hw_H → Prop} (hd : d ≤ 11) (hL : maxL ≤ 21) (hM : hw_Mi l g y wc (hw_R d mc ms) as w post) (hk : k + mc ≤ 600000) (hn : n + ms ≤ 7302250) (kk : ∀ (x : Int32) (w9 : hw_H), post x w9 → KK (k + mc) (n + ms) x w9) : hw_ci l g room_1 k n y wc maxL as w KK := ⟨hw_R d mc ms, post, hM, hw_RL hd hL, ⟨hk, hn⟩, kk⟩
theorem hw_cvL {post : hw_H → Prop} {KK : Nat → Nat → hw_H → Prop} (hd : d ≤ 11) (hL : maxL ≤ 21) (hM : hw_Mv l g y wc (hw_R d mc ms) as w post) (hk : k + mc ≤ 600000) (hn : n + ms ≤ 7302250) (kk : ∀ (w9 : hw_H), post w9 → KK (k + mc) (n + ms) w9) : hw_cv l g room_1 k n y wc maxL as w KK := ⟨hw_R d mc ms, post, hM, hw_RL hd hL, ⟨hk, hn⟩, kk⟩
end
section
variable {p : Program} {l : Launch} {e : Env} {s : State} {m : MethodId} {below : List Frame} {meth : Method} {c : Code} {g : hw_G} {b L : Nat} {xs : Nat → Int32}
abbrev lw_J (p : Program) (l : Launch) (e : Env) (s : State) (m : MethodId) (below : List Frame) (meth : Method) (c : Code) (g : hw_G) (b : Nat) : Nat → Nat → Nat → List (Option Value) → List Value → hw_H → Prop := hw_J p l e room_1 s m #[Value.ref b] below meth c (lw_Z below #[Value.ref b] s) 4 g (fun q => s.heap.size ≤ q)
theorem lw_rt (hx : p.tables.exec = Jvm.exec) (hb : c.code = code) (hr : meth.sig.returnType = ret) (hlk : meth.locks = false) : ∀ {k n pc : Nat} {lv : List (Option Value)} {x : Int32} {w : hw_H}, decode cb_La_law pc = .ok (.ireturn, 1) → (x = 1 ∧ k ≤ 600000 ∧ n ≤ 7302250) → lw_J p l e s m below meth c g b k n pc lv [.int x] w := by
  intro k n pc lv x w d h
  obtain ⟨rfl, hk, hn⟩ := h
  intro H locs ls ws h1 h2 h3 h4 h5
  refine va_forget (fun q hq => h5.2.2 q hq) ?_
  refine W.widen hk hn ?_
  exact lw_ret hx hb hr hlk d
set_option maxHeartbeats 4000000 in
set_option maxRecDepth 100000 in
theorem lw_one (hX : hw_X p m c cb_La_law 4 s #[Value.ref b] mw_La_law "ProofCourtLaw" g (fun q => s.heap.size ≤ q)) (hx : p.tables.exec = Jvm.exec) (hb : c.code = code) (hr : meth.sig.returnType = ret) (hlk : meth.locks = false) (hscr : hw_scr s (fun q => s.heap.size ≤ q) b L xs) (hL : L ≤ 3) {C T TC P0 PA S SC ST SR SK SH F FA M : Nat} {m0 : Nat → Nat} {k n : Nat} {w : hw_H} (aC : w C = some (.inr (4, [.ref T, .ref P0, .ref S, .ref F]))) (aT : w T = some (tx_o TC 0 0 0 0 0)) (aTC : w TC = some (ai_0 g 1 160)) (aP : w P0 = some (.inr (1, [.ref PA, .int 0, .int 0, .int 0]))) (aS : w S = some (se_o SC ST SR SK SH 0 0 0 1)) (aF : w F = some (fo_o FA (-1))) (aM : w M = some (mo_o m0 0 0 0 0 0 0)) (a0 : w (m0 0) = some (ai_0 g 0 160)) (a3 : w (m0 3) = some (ai_0 g 0 89)) (a7 : w (m0 7) = some (ai_0 g 2 21)) (nTC : m0 0 ≠ TC) (hk : k ≤ 1000) (hn : n ≤ 10000) : lw_J p l e s m below meth c g b k n 18 [some (.ref b), some (.ref C), some (.ref M), some (.int 0)] [] w := by
  refine sg_La_law_18 hX (fun _ _ _ _ _ _ h => h) (lw_rt hx hb hr hlk) hscr ?_
  unfold vc_La_law_18
  refine ⟨fun _ => ⟨rfl, by omega, by omega⟩, fun h3 => ?_⟩
  have hL3 : L = 3 := by
    rcases (show L = 0 ∨ L = 1 ∨ L = 2 ∨ L = 3 by omega) with rfl | rfl | rfl | rfl
    · exact absurd (by decide) h3
    · exact absurd (by decide) h3
    · exact absurd (by decide) h3
    · rfl
  subst hL3
  have v0 : vp_in (0 : Int32) 3 := by unfold vp_in; decide
  have v1 : vp_in ((0 : Int32) + 1) 3 := by unfold vp_in; decide
  have v2 : vp_in ((0 : Int32) + 2) 3 := by unfold vp_in; decide
  have fin : ∀ (k n : Nat) (w : hw_H), k ≤ 1000 → n ≤ 10000 → lw_J p l e s m below meth c g b k n 322 [some (.ref b), some (.ref C), some (.ref M), some (.int 0)] [] w := by
    intro k n w hk hn
    refine sg_La_law_322 hX (fun _ _ _ _ _ _ h => h) (lw_rt hx hb hr hlk) hscr ?_
    unfold vc_La_law_322
    refine sg_La_law_18 hX (fun _ _ _ _ _ _ h => h) (lw_rt hx hb hr hlk) hscr ?_
    unfold vc_La_law_18
    exact ⟨fun _ => ⟨rfl, by omega, by omega⟩, fun h => absurd (by decide) h⟩
  have kT : ∀ x, M ≠ T ∧ (va_up w T x) M = some (mo_o m0 0 0 0 0 0 0) ∧ (va_up w T x) (m0 3) = some (ai_0 g 0 89) := by
    intro x
    have n1 : M ≠ T := by rintro rfl; rw [aM] at aT; cases aT
    have n2 : m0 3 ≠ T := by intro z; rw [z] at a3; rw [a3] at aT; cases aT
    exact ⟨n1, by rw [va_up_ne _ _ n1]; exact aM, by rw [va_up_ne _ _ n2]; exact a3⟩
  have kS : ∀ x, (va_up w S x) M = some (mo_o m0 0 0 0 0 0 0) := by
    intro x
    have n1 : M ≠ S := by rintro rfl; rw [aM] at aS; cases aS
    rw [va_up_ne _ _ n1]; exact aM
  have kF : ∀ x, (va_up w F x) M = some (mo_o m0 0 0 0 0 0 0) := by
    intro x
    have n1 : M ≠ F := by rintro rfl; rw [aM] at aF; cases aF
    rw [va_up_ne _ _ n1]; exact aM
  refine ⟨v0, fun x1 _ => ⟨fun _ => ?_, fun _ => ?_, fun _ => ?_, fun _ => ?_, fun _ => ?_, fun _ => ?_, fun _ => ?_, fun _ => ?_, fun _ => ?_, fun _ => ?_, fun _ => ?_, fun _ => ?_, fun _ => fin _ _ _ hk hn⟩⟩
  · refine ⟨v1, fun x2 e2 => ⟨v2, fun x3 e3 => ⟨hw_o_of aC rfl rfl, hw_ciL (d := 3) (by decide) (by decide) (ct_Co_type (len := 0) (x := x2) (n := x3) l g w aC aT aTC (by decide)) (by omega) (by omega) ?_⟩⟩⟩
    rintro r w1 ⟨hr1, hno, hyes⟩
    have hM1 : w1 M = some (mo_o m0 0 0 0 0 0 0) ∧ w1 (m0 0) = some (ai_0 g 0 160) := by
      cases hok : tx_ok 0 x2 x3 with
      | false => rw [hno hok]; exact ⟨aM, a0⟩
      | true =>
        obtain ⟨-, -, hoff⟩ := hyes hok
        have n1 : M ≠ T := (kT none).1
        have n2 : M ≠ TC := by rintro rfl; rw [aM] at aTC; cases aTC
        have n3 : m0 0 ≠ T := by intro z; rw [z] at a0; rw [a0] at aT; cases aT
        exact ⟨by rw [hoff M n1 n2]; exact aM, by rw [hoff (m0 0) n3 nTC]; exact a0⟩
    refine ⟨v1, fun y2 f2 => ⟨v2, fun y3 f3 => ⟨hw_o_of hM1.1 rfl rfl, hw_ciL (d := 2) (by decide) (by decide) (ct_Mo_type (len := 0) (x := y2) (n := y3) l g w1 hM1.1 hM1.2 (by decide)) (by omega) (by omega) ?_⟩⟩⟩
    rintro r2 w2 ⟨hr2, -, -⟩
    refine ⟨fun _ => fin _ _ _ (by omega) (by omega), fun h => absurd ?_ h⟩
    rw [hr1, hr2, e2, e3, f2, f3]
  · refine ⟨hw_o_of aC rfl rfl, hw_ciL (d := 6) (by decide) (by decide) (ct_Co_read0 l g w aC aT) (by omega) (by omega) ?_⟩
    rintro r w' ⟨rfl, rfl⟩
    refine ⟨hw_o_of (kT _).2.1 rfl rfl, hw_ciL (d := 3) (by decide) (by decide) (ct_Mo_read0 l g _ (kT _).2.1) (by omega) (by omega) ?_⟩
    rintro r w'' rfl
    exact ⟨fun _ => fin _ _ _ (by omega) (by omega), fun h => absurd rfl h⟩
  · refine ⟨hw_o_of aC rfl rfl, hw_ciL (d := 1) (by decide) (by decide) (ct_Co_variables (a := 0) l g w aC aF) (by omega) (by omega) ?_⟩
    rintro r w' ⟨rfl, rfl⟩
    refine ⟨hw_o_of aM rfl rfl, hw_ciL (d := 1) (by decide) (by decide) (ct_Mo_variables0 l g _ aM) (by omega) (by omega) ?_⟩
    rintro r w'' rfl
    exact ⟨fun _ => fin _ _ _ (by omega) (by omega), fun h => absurd rfl h⟩
  · refine ⟨hw_o_of aC rfl rfl, hw_ciL (d := 1) (by decide) (by decide) (ct_Co_live l g w aC aP) (by omega) (by omega) ?_⟩
    rintro r w' ⟨rfl, rfl⟩
    refine ⟨hw_o_of aM rfl rfl, hw_ciL (d := 1) (by decide) (by decide) (ct_Mo_live0 l g _ aM) (by omega) (by omega) ?_⟩
    rintro r w'' rfl
    exact ⟨fun _ => fin _ _ _ (by omega) (by omega), fun h => absurd rfl h⟩
  · refine ⟨v1, fun x2 e2 => ⟨v2, fun x3 e3 => ⟨hw_o_of aC rfl rfl, hw_ciL (d := 2) (by decide) (by decide) (ct_Co_literal0 l g w aC aP) (by omega) (by omega) ?_⟩⟩⟩
    rintro r w1 ⟨rfl, rfl⟩
    refine ⟨v1, fun y2 f2 => ⟨v2, fun y3 f3 => ⟨hw_o_of aM rfl rfl, hw_ciL (d := 2) (by decide) (by decide) (ct_Mo_literal0 l g _ aM) (by omega) (by omega) ?_⟩⟩⟩
    rintro r2 w2 rfl
    exact ⟨fun _ => fin _ _ _ (by omega) (by omega), fun h => absurd rfl h⟩
  · refine ⟨hw_o_of aC rfl rfl, hw_ciL (d := 3) (by decide) (by decide) (ct_Co_solve0 l g w aC aS) (by omega) (by omega) ?_⟩
    rintro r w' ⟨rfl, rfl⟩
    refine ⟨hw_o_of (kS _) rfl rfl, hw_ciL (d := 3) (by decide) (by decide) (ct_Mo_solve0 l g _ (kS _)) (by omega) (by omega) ?_⟩
    rintro r w'' rfl
    exact ⟨fun _ => fin _ _ _ (by omega) (by omega), fun h => absurd rfl h⟩
  · refine ⟨v1, fun x2 e2 => ⟨hw_o_of aC rfl rfl, hw_ciL (d := 1) (by decide) (by decide) (ct_Co_value0 l g w aC aF) (by omega) (by omega) ?_⟩⟩
    rintro r w1 ⟨rfl, rfl⟩
    refine ⟨v1, fun y2 f2 => ⟨hw_o_of aM rfl rfl, hw_ciL (d := 3) (by decide) (by decide) (ct_Mo_value0 l g _ aM) (by omega) (by omega) ?_⟩⟩
    rintro r2 w2 rfl
    exact ⟨fun _ => fin _ _ _ (by omega) (by omega), fun h => absurd rfl h⟩
  · refine ⟨hw_o_of aC rfl rfl, hw_ciL (d := 3) (by decide) (by decide) (ct_Co_count0 l g w aC aF) (by omega) (by omega) ?_⟩
    rintro r w' ⟨rfl, rfl⟩
    refine ⟨hw_o_of (kF _) rfl rfl, hw_ciL (d := 2) (by decide) (by decide) (ct_Mo_count0 l g _ (kF _)) (by omega) (by omega) ?_⟩
    rintro r w'' rfl
    exact ⟨fun _ => fin _ _ _ (by omega) (by omega), fun h => absurd rfl h⟩
  · refine ⟨v1, fun x2 e2 => ⟨v2, fun x3 e3 => ⟨hw_o_of aC rfl rfl, hw_ciL (d := 2) (by decide) (by decide) (ct_Co_forced0 (x := x2) (y := x3) l g w aC aF) (by omega) (by omega) ?_⟩⟩⟩
    rintro r w1 ⟨rfl, rfl⟩
    refine ⟨v1, fun y2 f2 => ⟨v2, fun y3 f3 => ⟨hw_o_of aM rfl rfl, hw_ciL (d := 2) (by decide) (by decide) (ct_Mo_forced0 (x := y2) (y := y3) l g _ aM a7) (by omega) (by omega) ?_⟩⟩⟩
    rintro r2 w2 rfl
    refine ⟨fun _ => fin _ _ _ (by omega) (by omega), fun h => absurd ?_ h⟩
    rw [e2, e3, f2, f3]
  · refine ⟨hw_o_of aC rfl rfl, hw_ciL (d := 6) (by decide) (by decide) (ct_Co_line0 l g w aC aT aF) (by omega) (by omega) ?_⟩
    rintro r w' ⟨rfl, rfl⟩
    refine ⟨hw_o_of (kT _).2.1 rfl rfl, hw_ciL (d := 3) (by decide) (by decide) (ct_Mo_line0 l g _ (kT _).2.1 (kT _).2.2) (by omega) (by omega) ?_⟩
    rintro r w'' rfl
    exact ⟨fun _ => fin _ _ _ (by omega) (by omega), fun h => absurd rfl h⟩
  · refine ⟨hw_o_of aC rfl rfl, hw_ciL (d := 1) (by decide) (by decide) (ct_Co_refuted l g w aC aP (Or.inl rfl)) (by omega) (by omega) ?_⟩
    rintro r w' ⟨rfl, rfl⟩
    refine ⟨hw_o_of aM rfl rfl, hw_ciL (d := 1) (by decide) (by decide) (ct_Mo_refuted0 l g _ aM) (by omega) (by omega) ?_⟩
    rintro r w'' rfl
    exact ⟨fun _ => fin _ _ _ (by omega) (by omega), fun h => absurd rfl h⟩
  · refine ⟨hw_o_of aC rfl rfl, hw_ciL (d := 3) (by decide) (by decide) (ct_Co_proves0 l g w aC aS) (by omega) (by omega) ?_⟩
    rintro r w' ⟨rfl, rfl⟩
    refine ⟨hw_o_of (kS _) rfl rfl, hw_ciL (d := 3) (by decide) (by decide) (ct_Mo_proves0 l g _ (kS _)) (by omega) (by omega) ?_⟩
    rintro r w'' rfl
    exact ⟨fun _ => fin _ _ _ (by omega) (by omega), fun h => absurd rfl h⟩
end
