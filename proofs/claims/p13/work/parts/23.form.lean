def cl_no : va_E → Prop
  | .inr (ci, _) => ci ≠ 5
  | .inl (_, n, _) => n ≠ 6
theorem hw_sn {w : hw_H} {a : Nat} {e : va_E} (h : w a = some e) : w a ≠ none := by rw [h]; exact Option.some_ne_none _
theorem hw_an {w : hw_H} {a b n n' : Nat} {t t' : _} {f f' : _} (h1 : w a = some (.inl (t, n, f))) (h2 : w b = some (.inl (t', n', f'))) (h : n ≠ n') : a ≠ b := by
  rintro rfl
  rw [h1] at h2
  simp only [Option.some.injEq, Sum.inl.injEq, Prod.mk.injEq] at h2
  exact h h2.2.1
theorem cl_ok_k {g : hw_G} {w w' : hw_H} {S : Nat → Prop} {c : Nat} {num : Int32} {ls : List Int32} (h : cl_ok g w c num ls) (hk : ∀ y, w y ≠ none → ¬ S y → w' y = w y) (hS : ∀ y e, w y = some e → S y → cl_no e) : cl_ok g w' c num ls := by
  obtain ⟨la, f, h1, h2, h3⟩ := h
  refine ⟨la, f, ?_, ?_, h3⟩
  · rw [hk c (hw_sn h1) (fun z => absurd (rfl : (5 : Nat) = 5) (hS c _ h1 z))]; exact h1
  · rw [hk la (hw_sn h2) (fun z => absurd (rfl : (6 : Nat) = 6) (hS la _ h2 z))]; exact h2
abbrev fg_o (v : Int32) (fa n : Nat) (cnt : Int32) : va_E := .inr (3, [.int v, .ref fa, .int (nI n), .int cnt])
abbrev ar_q (g : hw_G) (n : Nat) (h : Nat → Option Nat) : va_E := .inl (g.2.1 3, n, .inr (.inr (.inr (.inr h))))
/-- the first places of a row of clauses: their numbers and literals -/
def fg_ar (g : hw_G) (w : hw_H) (h : Nat → Option Nat) (cs : List (Int32 × List Int32)) : Prop := ∀ (i : Nat) (x : Int32 × List Int32), cs[i]? = some x → ∃ c : Nat, h i = some c ∧ cl_ok g w c x.1 x.2
theorem fg_ar_0 {g : hw_G} {w : hw_H} {h : Nat → Option Nat} : fg_ar g w h [] := fun i ls hh => by simp at hh
theorem fg_ar_k {g : hw_G} {w w' : hw_H} {h : Nat → Option Nat} {cs : List (Int32 × List Int32)} {S : Nat → Prop} (H : fg_ar g w h cs) (hk : ∀ y, w y ≠ none → ¬ S y → w' y = w y) (hS : ∀ y e, w y = some e → S y → cl_no e) : fg_ar g w' h cs := fun i ls hi => by
  obtain ⟨c, h1, h2⟩ := H i ls hi
  exact ⟨c, h1, cl_ok_k h2 hk hS⟩
theorem fg_ar_s {g : hw_G} {w : hw_H} {h : Nat → Option Nat} {cs : List (Int32 × List Int32)} {c : Nat} {num : Int32} {ls : List Int32} (H : fg_ar g w h cs) (hc : cl_ok g w c num ls) : fg_ar g w (va_up h cs.length (some c)) (cs ++ [(num, ls)]) := fun i x hi => by
  by_cases h2 : i = cs.length
  · subst h2
    rw [List.getElem?_append_right (Nat.le_refl _), Nat.sub_self] at hi
    simp only [List.getElem?_cons_zero, Option.some.injEq] at hi
    subst hi
    exact ⟨c, va_up_self _ _ _, hc⟩
  · by_cases h3 : i < cs.length
    · rw [List.getElem?_append_left h3] at hi
      rw [va_up_ne _ _ h2]
      exact H i x hi
    · rw [List.getElem?_eq_none (by simp; omega)] at hi
      cases hi
def fg_cl (f : Nat → Int32) (len : Nat) (sk v : Int32) : Nat → Nat × Nat → List (Int32 × List Int32) → Option (List (Int32 × List Int32)) × (Nat × Nat)
  | 0, q, cs => (some cs, q)
  | d + 1, q, cs => match cl_in f len sk v 160 q [] with
    | (none, q') => (none, q')
    | (some ls, q') => fg_cl f len sk v d q' (cs ++ [(nI (cs.length + 1), ls)])
set_option maxHeartbeats 4000000 in
set_option maxRecDepth 100000 in
theorem ct_Fo_takesClauses (l : Launch) (g : hw_G) (w : hw_H) {T TC len F fa m0 : Nat} {q0 : Nat × Nat} {sk nu v cnt : Int32} {f : Nat → Int32} {h0 : Nat → Option Nat} (hT : w T = some (tx_o TC (nI len) sk (nI q0.1) (nI q0.2) nu)) (hC : w TC = some (.inl (g.2.1 1, 160, .inl f))) (hl : len ≤ 160) (hab : q0.1 ≤ q0.2) (hbl : q0.2 ≤ len) (hF : w F = some (fg_o v fa 0 cnt)) (hA : w fa = some (ar_q g 24 h0)) (hm : m0 ≤ 24) : hw_Mi l g ym_Fo_takesClauses mw_Fo_takesClauses (hw_R 9 48 240) [.ref F, .ref T, .int (nI m0)] w (fun r w' => ∃ (q : Nat × Nat) (nu' : Int32), q.1 ≤ q.2 ∧ q.2 ≤ len ∧ w' T = some (tx_o TC (nI len) sk (nI q.1) (nI q.2) nu') ∧ (∀ y, w y ≠ none → y ≠ T → y ≠ F → y ≠ fa → w' y = w y) ∧ ((r = 0 ∧ fg_cl f len sk v m0 q0 [] = (none, q)) ∨ ∃ (cs : List (Int32 × List Int32)) (h : Nat → Option Nat), r = 1 ∧ cs.length = m0 ∧ w' F = some (fg_o v fa cs.length cnt) ∧ w' fa = some (ar_q g 24 h) ∧ fg_ar g w' h cs ∧ fg_cl f len sk v m0 q0 [] = (some cs, q))) := by
  refine hw_enteri (r := 2) rfl rfl (by simp [Value.category]) (Nat.le_of_ble_eq_true rfl) ?_
  intro p e s m args below meth c A X hr hlk hnm
  refine sg_Fo_takesClauses_0 X (fun _ _ _ _ _ _ h => h) (hw_rtz X hr hlk) ?_
  unfold vc_Fo_takesClauses_0
  have nTF : T ≠ F := by rintro rfl; rw [hT] at hF; cases hF
  have nTA : T ≠ fa := by rintro rfl; rw [hT] at hA; cases hA
  have nFA : F ≠ fa := by rintro rfl; rw [hF] at hA; cases hA
  have nTTC : T ≠ TC := by rintro rfl; rw [hT] at hC; cases hC
  have nCF : TC ≠ F := by rintro rfl; rw [hC] at hF; cases hF
  have nCA : TC ≠ fa := hw_an hC hA (by decide)
  have L1 : ∀ (d i : Nat) (q : Nat × Nat) (cs : List (Int32 × List Int32)) (h : Nat → Option Nat) (nu1 : Int32) (w3 : hw_H), i + d = m0 → cs.length = i → q.1 ≤ q.2 → q.2 ≤ len → fg_cl f len sk v d q cs = fg_cl f len sk v m0 q0 [] → w3 T = some (tx_o TC (nI len) sk (nI q.1) (nI q.2) nu1) → w3 F = some (fg_o v fa i cnt) → w3 fa = some (ar_q g 24 h) → fg_ar g w3 h cs → (∀ y, w y ≠ none → y ≠ T → y ≠ F → y ≠ fa → w3 y = w y) → hw_Ji p l e (hw_R 9 48 240) s m args below meth c 5 g A (fun r w' => ∃ (q : Nat × Nat) (nu' : Int32), q.1 ≤ q.2 ∧ q.2 ≤ len ∧ w' T = some (tx_o TC (nI len) sk (nI q.1) (nI q.2) nu') ∧ (∀ y, w y ≠ none → y ≠ T → y ≠ F → y ≠ fa → w' y = w y) ∧ ((r = 0 ∧ fg_cl f len sk v m0 q0 [] = (none, q)) ∨ ∃ (cs : List (Int32 × List Int32)) (h : Nat → Option Nat), r = 1 ∧ cs.length = m0 ∧ w' F = some (fg_o v fa cs.length cnt) ∧ w' fa = some (ar_q g 24 h) ∧ fg_ar g w' h cs ∧ fg_cl f len sk v m0 q0 [] = (some cs, q))) (2 * i) (10 * i) 2 [some (.ref F), some (.ref T), some (.int (nI m0)), some (.int (nI i)), none] [] w3 := by
    intro d
    induction d with
    | zero =>
      intro i q cs h nu1 w3 hi hcs h1 h2 hin aT aF aA har hk
      have hi2 : i = m0 := by omega
      subst hi2
      refine sg_Fo_takesClauses_2 X (fun _ _ _ _ _ _ h => h) (hw_rtz X hr hlk) ?_
      unfold vc_Fo_takesClauses_2
      exact ⟨fun _ => ⟨⟨show 2 * i ≤ 48 by omega, show 10 * i ≤ 240 by omega⟩, Or.inr rfl, q, nu1, h1, h2, aT, hk, Or.inr ⟨cs, h, rfl, hcs, by rw [hcs]; exact aF, aA, har, hin.symm⟩⟩, fun h => absurd (Int32.le_refl _) h⟩
    | succ d ih =>
      intro i q cs h nu1 w3 hi hcs h1 h2 hin aT aF aA har hk
      have aC : w3 TC = some (.inl (g.2.1 1, 160, .inl f)) := by rw [hk TC (hw_sn hC) nTTC.symm nCF nCA]; exact hC
      refine sg_Fo_takesClauses_2 X (fun _ _ _ _ _ _ h => h) (hw_rtz X hr hlk) ?_
      unfold vc_Fo_takesClauses_2
      refine ⟨fun h => absurd h (nI_ge (by omega) (by omega)), fun _ => ⟨fun h => absurd h (nI_ge (b := 24) (by omega) (by omega)), fun _ => ⟨_, ⟨_, aF, rfl⟩, hw_cq_n (by decide) (by decide) (ct_Cl_clauseIn (num := nI i + 1) (v := v) l g w3 aT aC hl h1 h2) (by omega) (by omega) ?_⟩⟩⟩
      rintro o w4 ⟨q4, nu4, h41, h42, bT, bk, hor⟩
      have keep4 : ∀ y, w y ≠ none → y ≠ T → y ≠ F → y ≠ fa → w4 y = w y := fun y hy yT yF yA => by
        have := hk y hy yT yF yA
        rw [bk y (by rw [this]; exact hy) yT]; exact this
      have bF : w4 F = some (fg_o v fa i cnt) := by rw [bk F (hw_sn aF) nTF.symm]; exact aF
      have bA : w4 fa = some (ar_q g 24 h) := by rw [bk fa (hw_sn aA) nTA.symm]; exact aA
      rcases hor with ⟨rfl, hci⟩ | ⟨c4, ls, rfl, hc4, hok, hci⟩
      · rw [fg_cl, hci] at hin
        dsimp only at hin
        exact ⟨fun _ => ⟨⟨show 2 * i + 2 ≤ 48 by omega, show 10 * i + 10 ≤ 240 by omega⟩, Or.inl rfl, q4, nu4, h41, h42, bT, keep4, Or.inl ⟨rfl, hin.symm⟩⟩, fun q6 h6 => (by cases h6)⟩
      · rw [fg_cl, hci] at hin
        dsimp only at hin
        refine ⟨fun h6 => (by cases h6), fun q6 h6 => ?_⟩
        cases h6
        obtain ⟨la, f4, c1, c2, c3⟩ := hok
        have nAF : ∀ x, (va_up w4 fa x) F = some (fg_o v fa i cnt) := fun x => by rw [va_up_ne _ _ nFA]; exact bF
        refine ⟨_, ⟨_, bF, rfl⟩, _, ⟨⟨_, c1⟩, _, _, bA, vp_in_nI (by omega) (by omega), rfl⟩, _, ⟨_, nAF _, Nat.le_of_ble_eq_true rfl, rfl⟩, ?_⟩
        rw [nI_clamp (by omega), nI_1]
        have har4 : fg_ar g w4 h cs := fg_ar_k (S := fun y => y = T) har (fun y hy hn => bk y hy hn) (fun y e he hy => by subst hy; rw [aT] at he; cases he; exact (by decide : (0 : Nat) ≠ 5))
        have kk : ∀ x z y, w4 y ≠ none → ¬ (y = F ∨ y = fa) → (va_up (va_up w4 fa x) F z) y = w4 y := fun x z y _ hn => by
          rw [va_up_ne _ _ (fun h => hn (Or.inl h)), va_up_ne _ _ (fun h => hn (Or.inr h))]
        have kS : ∀ y e, w4 y = some e → (y = F ∨ y = fa) → cl_no e := fun y e he hy => by
          rcases hy with rfl | rfl
          · rw [bF] at he; cases he; exact (by decide : (3 : Nat) ≠ 5)
          · rw [bA] at he; cases he; exact (by decide : (24 : Nat) ≠ 6)
        have har5 := fg_ar_k (S := fun y => y = F ∨ y = fa) (fg_ar_s har4 (ls := ls) (num := nI i + 1) ⟨la, f4, c1, c2, c3⟩) (kk (some (ar_q g 24 (va_up h i (some c4)))) (some (fg_o v fa (i + 1) cnt))) kS
        rw [hcs, nI_1] at har5
        rw [hcs] at hin
        refine ih (i + 1) q4 (cs ++ [(nI (i + 1), ls)]) (va_up h i (some c4)) nu4 _ (by omega) (by simp [hcs]) h41 h42 hin ?_ (va_up_self _ _ _) ?_ har5 ?_
        · rw [va_up_ne _ _ nTF, va_up_ne _ _ nTA]; exact bT
        · rw [va_up_ne _ _ nFA.symm]; exact (va_up_self _ _ _)
        · intro y hy yT yF yA
          rw [va_up_ne _ _ yF, va_up_ne _ _ yA]
          exact keep4 y hy yT yF yA
  exact L1 m0 0 q0 [] h0 nu w (by omega) rfl hab hbl rfl hT hF hA fg_ar_0 (fun y _ _ _ _ => rfl)
