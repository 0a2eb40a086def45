abbrev mo_C : Type := List (List Int32)
def mo_rl (ch bg en : Nat → Int32) (n : Nat) (v : Int32) : Nat → Nat → mo_C → Option mo_C × Nat
  | 0, k, cs => (some cs, k)
  | d + 1, k, cs => match mo_rc ch bg en n v 81 k [] with
    | (none, k') => (none, k')
    | (some ls, k') => mo_rl ch bg en n v d k' (cs ++ [ls])
def mo_re (v : Int32) (n : Nat) : Option mo_C × Nat → Option (Int32 × mo_C) × Nat
  | (none, k) => (none, k)
  | (some cs, k) => if k < n then (none, k) else (some (v, cs), k)
def mo_rd (ch bg en : Nat → Int32) (n : Nat) : Option (Int32 × mo_C) × Nat := if mo_ik ch bg en n 0 112 0 0 = true then (if mo_ik ch bg en n 1 99 110 102 = true then (if mo_nk ch bg en n 2 1 10 = true then (if mo_nk ch bg en n 3 0 24 = true then mo_re (mo_wk ch bg en 2) n (mo_rl ch bg en n (mo_wk ch bg en 2) (mo_wk ch bg en 3).toNatClampNeg 4 []) else (none, 3)) else (none, 2)) else (none, 1)) else (none, 0)
def mo_sb (b m : Nat) (cs : mo_C) (ma lt : Nat → Int32) : Prop := ∀ (i : Nat) (ls : List Int32), i < m → cs[i]? = some ls → ma (b + i) = nI ls.length ∧ cl_ar (fun j => lt (6 * (b + i) + j)) ls
theorem cl_ar_e {f f' : Nat → Int32} {ls : List Int32} (h : cl_ar f ls) (he : ∀ j, j < 6 → f' j = f j) : cl_ar f' ls := ⟨h.1, fun i hi => (he i (by have := h.1; omega)).trans (h.2 i hi)⟩
theorem mo_sb_k {b m : Nat} {cs : mo_C} {ma ma' lt lt' : Nat → Int32} (h : mo_sb b m cs ma lt) (hm : ∀ i, i < m → ma' (b + i) = ma (b + i)) (hl : ∀ i j, i < m → j < 6 → lt' (6 * (b + i) + j) = lt (6 * (b + i) + j)) : mo_sb b m cs ma' lt' := fun i ls hi hx => by
  obtain ⟨h1, h2⟩ := h i ls hi hx
  exact ⟨(hm i hi).trans h1, cl_ar_e h2 (fun j hj => hl i j hi hj)⟩
/-- the first slots are kept -/
def mo_k65 (ma ma' lt lt' : Nat → Int32) : Prop := (∀ i, i < 65 → ma' i = ma i) ∧ ∀ q, q < 390 → lt' q = lt q
theorem mo_fl_2 {ft : Int32} {n k L : Nat} {bg : Nat → Int32} (h : ¬ ft < 0) : mo_fl ft n k L bg = ft := by unfold mo_fl; rw [if_neg h]
set_option maxHeartbeats 4000000 in
set_option maxRecDepth 100000 in
theorem ct_Mo_read (l : Launch) (g : hw_G) (w : hw_H) {r : Nat → Nat} {wo nx sz ft va cl lv hg em hn pl : Int32} {ch bg en ma lt nu hh kn bf : Nat → Int32} {L : Nat} (H : mo_I g w r (nI L) wo nx sz ft va cl lv hg em hn pl ch bg en ma lt nu hh kn bf) (hL : L ≤ 160) (hma : mo_a ma lt) : hw_Mi l g ym_Mo_read mw_Mo_read (hw_R 5 0 0) [.ref (r 9)] w (fun r0 w' => mo_K w w' r ∧ ∃ (n : Nat) (bg1 en1 : Nat → Int32), n = (mo_cw ch L true (L + 1) 0 true false).length ∧ n ≤ 80 ∧ mo_wl L (mo_cw ch L true (L + 1) 0 true false) bg1 en1 ∧ ((∃ k', (mo_rd ch bg1 en1 n).1 = none ∧ (mo_rd ch bg1 en1 n).2 = k' ∧ r0 = -1 - mo_fl (-1) n k' L bg1 ∧ ∃ (nx' ft' : Int32) (ma' lt' : Nat → Int32), mo_a ma' lt' ∧ mo_k65 ma ma' lt lt' ∧ mo_I g w' r 0 (nI n) nx' (nI L) ft' va cl lv hg em hn pl ch bg1 en1 ma' lt' nu hh kn bf) ∨ (∃ (v : Nat) (cs : mo_C), (mo_rd ch bg1 en1 n).1 = some (nI v, cs) ∧ 1 ≤ v ∧ v ≤ 10 ∧ cs.length ≤ 24 ∧ r0 = nI cs.length ∧ ∃ (nx' : Int32) (ma' lt' nu' : Nat → Int32), mo_a ma' lt' ∧ mo_sb 0 cs.length cs ma' lt' ∧ mo_I g w' r 0 (nI n) nx' (nI L) (-1) (nI v) (nI cs.length) (nI cs.length) (nI cs.length) 0 hn pl ch bg1 en1 ma' lt' nu' hh kn bf))) := by
  refine hw_enteri (r := 3) rfl rfl (by simp [Value.category]) (Nat.le_of_ble_eq_true rfl) ?_
  intro p e s m args below meth c A X hr hlk hnm
  refine sg_Mo_read_0 X (fun _ _ _ _ _ _ h => h) (hw_rti X hr hlk) ?_
  unfold vc_Mo_read_0
  have H0 := H
  obtain ⟨D, M, A0, A1, A2, A3, A4, A5, A6, A7, A8⟩ := H
  refine ⟨hw_o_of M rfl rfl, hw_cv_0 (by decide) (by decide) (ct_Mo_cut (rem := true) l g w H0 hL) (Nat.zero_le _) (Nat.zero_le _) ?_⟩
  rintro w1 ⟨bg1, en1, hwl, hn80, H1, hK1⟩
  obtain ⟨n, hnn⟩ : ∃ n : Nat, n = (mo_cw ch L true (L + 1) 0 true false).length := ⟨_, rfl⟩
  rw [← hnn] at hn80 H1
  have hW : mo_W n bg1 en1 L := by rw [hnn] at hn80 ⊢; exact mo_wl_W hwl hn80 hL
  have hP : ∀ k' : Nat, ¬ mo_fl (-1) n k' L bg1 < 0 := fun k' => mo_fl_p hW
  have m1 : ((-1 : Int32) < 0) := by decide
  -- the fault is told
  have F68 : ∀ (x1 x2 x3 : Int32) (k' : Nat) (nx1 : Int32) (ma1 lt1 : Nat → Int32) (w2 : hw_H), (mo_rd ch bg1 en1 n).1 = none → (mo_rd ch bg1 en1 n).2 = k' → mo_a ma1 lt1 → mo_k65 ma ma1 lt lt1 → mo_I g w2 r 0 (nI n) nx1 (nI L) (mo_fl (-1) n k' L bg1) va cl lv hg em hn pl ch bg1 en1 ma1 lt1 nu hh kn bf → mo_K w w2 r → hw_Ji p l e (hw_R 5 0 0) s m args below meth c 4 g A (fun r0 w' => mo_K w w' r ∧ ∃ (n : Nat) (bg1 en1 : Nat → Int32), n = (mo_cw ch L true (L + 1) 0 true false).length ∧ n ≤ 80 ∧ mo_wl L (mo_cw ch L true (L + 1) 0 true false) bg1 en1 ∧ ((∃ k', (mo_rd ch bg1 en1 n).1 = none ∧ (mo_rd ch bg1 en1 n).2 = k' ∧ r0 = -1 - mo_fl (-1) n k' L bg1 ∧ ∃ (nx' ft' : Int32) (ma' lt' : Nat → Int32), mo_a ma' lt' ∧ mo_k65 ma ma' lt lt' ∧ mo_I g w' r 0 (nI n) nx' (nI L) ft' va cl lv hg em hn pl ch bg1 en1 ma' lt' nu hh kn bf) ∨ (∃ (v : Nat) (cs : mo_C), (mo_rd ch bg1 en1 n).1 = some (nI v, cs) ∧ 1 ≤ v ∧ v ≤ 10 ∧ cs.length ≤ 24 ∧ r0 = nI cs.length ∧ ∃ (nx' : Int32) (ma' lt' nu' : Nat → Int32), mo_a ma' lt' ∧ mo_sb 0 cs.length cs ma' lt' ∧ mo_I g w' r 0 (nI n) nx' (nI L) (-1) (nI v) (nI cs.length) (nI cs.length) (nI cs.length) 0 hn pl ch bg1 en1 ma' lt' nu' hh kn bf))) 0 0 68 [some (.ref (r 9)), some (.int x1), some (.int x2), some (.int x3)] [] w2 := by
    intro x1 x2 x3 k' nx1 ma1 lt1 w2 e1 e2 e3 e4 H2 hK2
    refine sg_Mo_read_68 X (fun _ _ _ _ _ _ h => h) (hw_rti X hr hlk) ?_
    unfold vc_Mo_read_68
    exact ⟨_, ⟨_, H2.2.1, rfl⟩, fun _ => ⟨_, ⟨_, H2.2.1, rfl⟩, fun h => absurd h (hP k'), fun _ => ⟨_, ⟨_, H2.2.1, rfl⟩, hw_00, hK2, n, bg1, en1, hnn, hn80, hwl, Or.inl ⟨k', e1, e2, rfl, nx1, _, ma1, lt1, e3, e4, H2⟩⟩⟩, fun h => absurd (Int32.not_lt.mp (hP k')) h⟩
  have F41 : ∀ (x1 x2 x3 : Int32) (k' : Nat) (nx1 : Int32) (ma1 lt1 : Nat → Int32) (w2 : hw_H), (mo_rd ch bg1 en1 n).1 = none → (mo_rd ch bg1 en1 n).2 = k' → mo_a ma1 lt1 → mo_k65 ma ma1 lt lt1 → mo_I g w2 r 0 (nI n) nx1 (nI L) (mo_fl (-1) n k' L bg1) va cl lv hg em hn pl ch bg1 en1 ma1 lt1 nu hh kn bf → mo_K w w2 r → hw_Ji p l e (hw_R 5 0 0) s m args below meth c 4 g A (fun r0 w' => mo_K w w' r ∧ ∃ (n : Nat) (bg1 en1 : Nat → Int32), n = (mo_cw ch L true (L + 1) 0 true false).length ∧ n ≤ 80 ∧ mo_wl L (mo_cw ch L true (L + 1) 0 true false) bg1 en1 ∧ ((∃ k', (mo_rd ch bg1 en1 n).1 = none ∧ (mo_rd ch bg1 en1 n).2 = k' ∧ r0 = -1 - mo_fl (-1) n k' L bg1 ∧ ∃ (nx' ft' : Int32) (ma' lt' : Nat → Int32), mo_a ma' lt' ∧ mo_k65 ma ma' lt lt' ∧ mo_I g w' r 0 (nI n) nx' (nI L) ft' va cl lv hg em hn pl ch bg1 en1 ma' lt' nu hh kn bf) ∨ (∃ (v : Nat) (cs : mo_C), (mo_rd ch bg1 en1 n).1 = some (nI v, cs) ∧ 1 ≤ v ∧ v ≤ 10 ∧ cs.length ≤ 24 ∧ r0 = nI cs.length ∧ ∃ (nx' : Int32) (ma' lt' nu' : Nat → Int32), mo_a ma' lt' ∧ mo_sb 0 cs.length cs ma' lt' ∧ mo_I g w' r 0 (nI n) nx' (nI L) (-1) (nI v) (nI cs.length) (nI cs.length) (nI cs.length) 0 hn pl ch bg1 en1 ma' lt' nu' hh kn bf))) 0 0 41 [some (.ref (r 9)), some (.int x1), some (.int x2), some (.int x3)] [] w2 := by
    intro x1 x2 x3 k' nx1 ma1 lt1 w2 e1 e2 e3 e4 H2 hK2
    refine sg_Mo_read_41 X (fun _ _ _ _ _ _ h => h) (hw_rti X hr hlk) ?_
    unfold vc_Mo_read_41
    exact ⟨fun _ => F68 x1 x2 x3 k' nx1 ma1 lt1 w2 e1 e2 e3 e4 H2 hK2, fun _ => ⟨_, ⟨_, H2.2.1, rfl⟩, fun _ => F68 x1 x2 x3 k' nx1 ma1 lt1 w2 e1 e2 e3 e4 H2 hK2, fun h => absurd (Int32.not_lt.mp (hP k')) h⟩⟩
  -- the formula is kept
  have L131 : ∀ (v : Nat) (cs : mo_C) (d i : Nat) (nx1 : Int32) (ma1 lt1 nu1 : Nat → Int32) (w2 : hw_H), (mo_rd ch bg1 en1 n).1 = some (nI v, cs) → 1 ≤ v → v ≤ 10 → cs.length ≤ 24 → i + d = cs.length → mo_a ma1 lt1 → mo_sb 65 cs.length cs ma1 lt1 → mo_sb 0 i cs ma1 lt1 → mo_I g w2 r 0 (nI n) nx1 (nI L) (-1) (nI v) (nI cs.length) (nI cs.length) (nI cs.length) 0 hn pl ch bg1 en1 ma1 lt1 nu1 hh kn bf → mo_K w w2 r → hw_Ji p l e (hw_R 5 0 0) s m args below meth c 4 g A (fun r0 w' => mo_K w w' r ∧ ∃ (n : Nat) (bg1 en1 : Nat → Int32), n = (mo_cw ch L true (L + 1) 0 true false).length ∧ n ≤ 80 ∧ mo_wl L (mo_cw ch L true (L + 1) 0 true false) bg1 en1 ∧ ((∃ k', (mo_rd ch bg1 en1 n).1 = none ∧ (mo_rd ch bg1 en1 n).2 = k' ∧ r0 = -1 - mo_fl (-1) n k' L bg1 ∧ ∃ (nx' ft' : Int32) (ma' lt' : Nat → Int32), mo_a ma' lt' ∧ mo_k65 ma ma' lt lt' ∧ mo_I g w' r 0 (nI n) nx' (nI L) ft' va cl lv hg em hn pl ch bg1 en1 ma' lt' nu hh kn bf) ∨ (∃ (v : Nat) (cs : mo_C), (mo_rd ch bg1 en1 n).1 = some (nI v, cs) ∧ 1 ≤ v ∧ v ≤ 10 ∧ cs.length ≤ 24 ∧ r0 = nI cs.length ∧ ∃ (nx' : Int32) (ma' lt' nu' : Nat → Int32), mo_a ma' lt' ∧ mo_sb 0 cs.length cs ma' lt' ∧ mo_I g w' r 0 (nI n) nx' (nI L) (-1) (nI v) (nI cs.length) (nI cs.length) (nI cs.length) 0 hn pl ch bg1 en1 ma' lt' nu' hh kn bf))) 0 0 131 [some (.ref (r 9)), some (.int (nI v)), some (.int (nI cs.length)), some (.int (nI i))] [] w2 := by
    intro v cs d
    induction d with
    | zero =>
      intro i nx1 ma1 lt1 nu1 w2 e1 e2 e3 e4 hi e5 e6 e7 H2 hK2
      have hi2 : i = cs.length := by omega
      subst hi2
      refine sg_Mo_read_131 X (fun _ _ _ _ _ _ h => h) (hw_rti X hr hlk) ?_
      unfold vc_Mo_read_131
      exact ⟨fun _ => ⟨hw_00, hK2, n, bg1, en1, hnn, hn80, hwl, Or.inr ⟨v, cs, e1, e2, e3, e4, rfl, nx1, ma1, lt1, nu1, e5, e7, H2⟩⟩, fun h => absurd (Int32.le_refl _) h⟩
    | succ d ih =>
      intro i nx1 ma1 lt1 nu1 w2 e1 e2 e3 e4 hi e5 e6 e7 H2 hK2
      have hil : i < cs.length := by omega
      obtain ⟨m6, a6⟩ := e6 i cs[i] hil (List.getElem?_eq_getElem hil)
      have hl6 := a6.1
      refine sg_Mo_read_131 X (fun _ _ _ _ _ _ h => h) (hw_rti X hr hlk) ?_
      unfold vc_Mo_read_131
      rw [show (65 : Int32) + nI i = nI (65 + i) from nI_add 65 i, show (24 : Int32) + nI i = nI (24 + i) from nI_add 24 i]
      refine ⟨fun h => absurd h (nI_ge hil (by omega)), fun _ => ⟨hw_o_of H2.2.1 rfl rfl, hw_cv_0 (by decide) (by decide) (ct_Mo_copy (c1 := 65 + i) (c2 := i) l g w2 H2 (by omega) (by omega) (by omega) m6 hl6) (Nat.zero_le _) (Nat.zero_le _) ?_⟩⟩
      rintro w3 ⟨lt3, l1, l2, H3, hK3⟩
      have e5' := mo_a_c e5 (by omega) hl6 l1 l2
      have m7 : upd ma1 i (nI cs[i].length) (65 + i) = nI cs[i].length := (pk_un (by omega)).trans m6
      refine ⟨hw_o_of H3.2.1 rfl rfl, hw_cv_0 (by decide) (by decide) (ct_Mo_copy (c1 := 65 + i) (c2 := 24 + i) l g w3 H3 (by omega) (by omega) (by omega) m7 hl6) (Nat.zero_le _) (Nat.zero_le _) ?_⟩
      rintro w4 ⟨lt4, l3, l4, H4, hK4⟩
      have e5'' := mo_a_c e5' (by omega) hl6 l3 l4
      refine ⟨_, ⟨_, H4.2.1, rfl⟩, _, hw_wr H4.2.2.2.2.2.2.2.1 (by omega) (by decide), ?_⟩
      rw [nI_1]
      have H5 := mo_u5 (upd nu1 i (nI (i + 1))) H4
      refine ih (i + 1) nx1 _ lt4 _ _ e1 e2 e3 e4 (by omega) e5'' ?_ ?_ H5 (mo_K_u (mo_K_t (mo_K_t hK2 hK3) hK4) (by decide))
      · refine mo_sb_k e6 (fun j hj => ?_) (fun j j2 hj hj2 => ?_)
        · rw [pk_un (by omega), pk_un (by omega)]
        · rw [l4 _ (by omega), l2 _ (by omega)]
      · intro j ls hj hx
        by_cases hji : j = i
        · subst hji
          rw [List.getElem?_eq_getElem hil] at hx
          cases hx
          rw [Nat.zero_add]
          refine ⟨?_, ?_⟩
          · rw [pk_un (by omega)]; exact pk_us
          · have h8 : cl_ar (fun j2 => lt3 (6 * j + j2)) cs[j] := ⟨hl6, fun j2 hj2 => (l1 j2 hj2).trans (a6.2 j2 hj2)⟩
            exact ⟨hl6, fun j2 hj2 => (l4 _ (by omega)).trans (h8.2 j2 hj2)⟩
        · obtain ⟨b1, b2⟩ := e7 j ls (by omega) hx
          rw [Nat.zero_add] at b1 b2 ⊢
          refine ⟨?_, cl_ar_e b2 (fun j2 hj2 => ?_)⟩
          · rw [pk_un (by omega), pk_un (by omega)]; exact b1
          · rw [l4 _ (by omega), l2 _ (by omega)]
  have S131 : ∀ (v : Nat) (cs : mo_C) (nx1 : Int32) (ma1 lt1 : Nat → Int32) (w2 : hw_H), (mo_rd ch bg1 en1 n).1 = some (nI v, cs) → 1 ≤ v → v ≤ 10 → cs.length ≤ 24 → mo_a ma1 lt1 → mo_sb 65 cs.length cs ma1 lt1 → mo_I g w2 r 0 (nI n) nx1 (nI L) (-1) va cl lv hg em hn pl ch bg1 en1 ma1 lt1 nu hh kn bf → mo_K w w2 r → ∃ w3 : hw_H, hw_p w2 (r 9) 8 8 (.int (nI v)) w3 ∧ (∃ w4 : hw_H, hw_p w3 (r 9) 8 12 (.int (nI cs.length)) w4 ∧ (∃ w5 : hw_H, hw_p w4 (r 9) 8 13 (.int (nI cs.length)) w5 ∧ (∃ w6 : hw_H, hw_p w5 (r 9) 8 14 (.int (nI cs.length)) w6 ∧ (∃ w7 : hw_H, hw_p w6 (r 9) 8 15 (.int (0 : Int32)) w7 ∧ hw_b (0 : Int32) ∧ (hw_Ji p l e (hw_R 5 0 0) s m args below meth c 4 g A (fun r0 w' => mo_K w w' r ∧ ∃ (n : Nat) (bg1 en1 : Nat → Int32), n = (mo_cw ch L true (L + 1) 0 true false).length ∧ n ≤ 80 ∧ mo_wl L (mo_cw ch L true (L + 1) 0 true false) bg1 en1 ∧ ((∃ k', (mo_rd ch bg1 en1 n).1 = none ∧ (mo_rd ch bg1 en1 n).2 = k' ∧ r0 = -1 - mo_fl (-1) n k' L bg1 ∧ ∃ (nx' ft' : Int32) (ma' lt' : Nat → Int32), mo_a ma' lt' ∧ mo_k65 ma ma' lt lt' ∧ mo_I g w' r 0 (nI n) nx' (nI L) ft' va cl lv hg em hn pl ch bg1 en1 ma' lt' nu hh kn bf) ∨ (∃ (v : Nat) (cs : mo_C), (mo_rd ch bg1 en1 n).1 = some (nI v, cs) ∧ 1 ≤ v ∧ v ≤ 10 ∧ cs.length ≤ 24 ∧ r0 = nI cs.length ∧ ∃ (nx' : Int32) (ma' lt' nu' : Nat → Int32), mo_a ma' lt' ∧ mo_sb 0 cs.length cs ma' lt' ∧ mo_I g w' r 0 (nI n) nx' (nI L) (-1) (nI v) (nI cs.length) (nI cs.length) (nI cs.length) 0 hn pl ch bg1 en1 ma' lt' nu' hh kn bf))) 0 0 131 [some (.ref (r 9)), some (.int (nI v)), some (.int (nI cs.length)), some (.int (0 : Int32))] [] w7))))) := by
    intro v cs nx1 ma1 lt1 w2 e1 e2 e3 e4 e5 e6 H2 hK2
    have M2 := H2.2.1
    refine ⟨_, ⟨_, M2, Nat.le_of_ble_eq_true rfl, rfl⟩, _, ⟨_, (va_up_self _ _ _), Nat.le_of_ble_eq_true rfl, rfl⟩, _, ⟨_, (va_up_self _ _ _), Nat.le_of_ble_eq_true rfl, rfl⟩, _, ⟨_, (va_up_self _ _ _), Nat.le_of_ble_eq_true rfl, rfl⟩, _, ⟨_, (va_up_self _ _ _), Nat.le_of_ble_eq_true rfl, rfl⟩, Or.inl rfl, ?_⟩
    rw [bx_uu, bx_uu, bx_uu, bx_uu]
    exact L131 v cs cs.length 0 nx1 ma1 lt1 nu _ e1 e2 e3 e4 (by omega) e5 e6 (fun i ls hi => absurd hi (Nat.not_lt_zero _)) (mo_u9 0 (nI n) nx1 (nI L) (-1) (nI v) (nI cs.length) (nI cs.length) (nI cs.length) 0 hn pl H2) (mo_K_u hK2 (by decide))
  -- the clauses
  have L41 : ∀ (v m0 : Nat), 1 ≤ v → v ≤ 10 → m0 ≤ 24 → ∀ (d i k1 : Nat) (cs : mo_C) (ma1 lt1 : Nat → Int32) (w2 : hw_H), i + d = m0 → cs.length = i → k1 < 1000 → mo_a ma1 lt1 → mo_sb 65 i cs ma1 lt1 → mo_k65 ma ma1 lt lt1 → mo_re (nI v) n (mo_rl ch bg1 en1 n (nI v) d k1 cs) = mo_rd ch bg1 en1 n → mo_I g w2 r 0 (nI n) (nI k1) (nI L) (-1) va cl lv hg em hn pl ch bg1 en1 ma1 lt1 nu hh kn bf → mo_K w w2 r → hw_Ji p l e (hw_R 5 0 0) s m args below meth c 4 g A (fun r0 w' => mo_K w w' r ∧ ∃ (n : Nat) (bg1 en1 : Nat → Int32), n = (mo_cw ch L true (L + 1) 0 true false).length ∧ n ≤ 80 ∧ mo_wl L (mo_cw ch L true (L + 1) 0 true false) bg1 en1 ∧ ((∃ k', (mo_rd ch bg1 en1 n).1 = none ∧ (mo_rd ch bg1 en1 n).2 = k' ∧ r0 = -1 - mo_fl (-1) n k' L bg1 ∧ ∃ (nx' ft' : Int32) (ma' lt' : Nat → Int32), mo_a ma' lt' ∧ mo_k65 ma ma' lt lt' ∧ mo_I g w' r 0 (nI n) nx' (nI L) ft' va cl lv hg em hn pl ch bg1 en1 ma' lt' nu hh kn bf) ∨ (∃ (v : Nat) (cs : mo_C), (mo_rd ch bg1 en1 n).1 = some (nI v, cs) ∧ 1 ≤ v ∧ v ≤ 10 ∧ cs.length ≤ 24 ∧ r0 = nI cs.length ∧ ∃ (nx' : Int32) (ma' lt' nu' : Nat → Int32), mo_a ma' lt' ∧ mo_sb 0 cs.length cs ma' lt' ∧ mo_I g w' r 0 (nI n) nx' (nI L) (-1) (nI v) (nI cs.length) (nI cs.length) (nI cs.length) 0 hn pl ch bg1 en1 ma' lt' nu' hh kn bf))) 0 0 41 [some (.ref (r 9)), some (.int (nI v)), some (.int (nI m0)), some (.int (nI i))] [] w2 := by
    intro v m0 hv1 hv2 hm0 d
    induction d with
    | zero =>
      intro i k1 cs ma1 lt1 w2 hi hcl hk1 e1 e2 e3 hres H2 hK2
      have hi2 : i = m0 := by omega
      subst hi2
      have hres : (if k1 < n then ((none, k1) : Option (Int32 × mo_C) × Nat) else (some (nI v, cs), k1)) = mo_rd ch bg1 en1 n := hres
      refine sg_Mo_read_41 X (fun _ _ _ _ _ _ h => h) (hw_rti X hr hlk) ?_
      unfold vc_Mo_read_41
      refine ⟨fun _ => ?_, fun h => absurd (Int32.le_refl _) h⟩
      refine sg_Mo_read_68 X (fun _ _ _ _ _ _ h => h) (hw_rti X hr hlk) ?_
      unfold vc_Mo_read_68
      subst hcl
      refine ⟨_, ⟨_, H2.2.1, rfl⟩, fun h => absurd h (by decide), fun _ => ⟨_, ⟨_, H2.2.1, rfl⟩, _, ⟨_, H2.2.1, rfl⟩, fun h => ⟨_, ⟨_, H2.2.1, rfl⟩, fun _ => ?_, fun h9 => absurd m1 h9⟩, fun h => ⟨hw_o_of H2.2.1 rfl rfl, hw_cv_0 (by decide) (by decide) (ct_Mo_fail l g w2 H2 hW hk1) (Nat.zero_le _) (Nat.zero_le _) ?_⟩⟩⟩
      · rw [nI_leI (by omega) (by omega)] at h
        rw [if_neg (by omega)] at hres
        exact S131 v cs _ ma1 lt1 w2 (by rw [← hres]) hv1 hv2 hm0 e1 e2 H2 hK2
      · rw [nI_leI (by omega) (by omega)] at h
        rw [if_pos (by omega)] at hres
        rintro w3 ⟨H3, hK3⟩
        exact ⟨_, ⟨_, H3.2.1, rfl⟩, fun h => absurd h (hP k1), fun _ => ⟨_, ⟨_, H3.2.1, rfl⟩, hw_00, mo_K_t hK2 hK3, n, bg1, en1, hnn, hn80, hwl, Or.inl ⟨k1, (by rw [← hres]), (by rw [← hres]), rfl, _, _, ma1, lt1, e1, e3, H3⟩⟩⟩
    | succ d ih =>
      intro i k1 cs ma1 lt1 w2 hi hcl hk1 e1 e2 e3 hres H2 hK2
      rw [mo_rl.eq_2] at hres
      refine sg_Mo_read_41 X (fun _ _ _ _ _ _ h => h) (hw_rti X hr hlk) ?_
      unfold vc_Mo_read_41
      rw [show (65 : Int32) + nI i = nI (65 + i) from nI_add 65 i]
      refine ⟨fun h => absurd h (nI_ge (by omega) (by omega)), fun _ => ⟨_, ⟨_, H2.2.1, rfl⟩, fun h => absurd h (by decide), fun _ => ⟨hw_o_of H2.2.1 rfl rfl, hw_cv_0 (by decide) (by decide) (ct_Mo_readClause (kc := 65 + i) l g w2 H2 hW hk1 (by omega) hv2 m1) (Nat.zero_le _) (Nat.zero_le _) ?_⟩⟩⟩
      rintro w3 ⟨o, k', ls, lt', hrc, hls, hk', hlc, H3, hK3⟩
      have hK3 := mo_K_t hK2 hK3
      have a1 := mo_a_lc e1 hlc
      have k65 : mo_k65 ma (upd ma1 (65 + i) (nI ls.length)) lt lt' := ⟨fun j hj => (pk_un (by omega)).trans (e3.1 j hj), fun q hq => (hlc.2.2 q (by omega)).trans (e3.2 q hq)⟩
      rw [hrc] at hres
      rw [nI_1]
      cases o with
      | none =>
        have hres : ((none, k') : Option (Int32 × mo_C) × Nat) = mo_rd ch bg1 en1 n := hres
        exact F41 _ _ _ k' _ _ lt' w3 (by rw [← hres]) (by rw [← hres]) a1 k65 H3 hK3
      | some ls' =>
        have hl := hls ls' rfl
        subst hl
        have hres : mo_re (nI v) n (mo_rl ch bg1 en1 n (nI v) d k' (cs ++ [ls])) = mo_rd ch bg1 en1 n := hres
        refine ih (i + 1) k' (cs ++ [ls]) _ lt' w3 (by omega) (by simp; omega) hk' a1 ?_ k65 hres H3 hK3
        intro j ls2 hj hx
        by_cases hji : j = i
        · subst hji
          rw [List.getElem?_append_right (by omega), hcl, Nat.sub_self] at hx
          cases hx
          exact ⟨pk_us, hlc.1⟩
        · rw [List.getElem?_append_left (by omega)] at hx
          obtain ⟨b1, b2⟩ := e2 j ls2 (by omega) hx
          refine ⟨(pk_un (by omega)).trans b1, cl_ar_e b2 (fun j2 hj2 => hlc.2.2 _ (by omega))⟩
  -- the head
  have H1 : mo_I g w1 r 0 (nI n) (nI 0) (nI L) (-1) va cl lv hg em hn pl ch bg1 en1 ma lt nu hh kn bf := H1
  refine ⟨hw_o_of H1.2.1 rfl rfl, hw_cv_0 (by decide) (by decide) (ct_Mo_expect l g w1 H1 hW (by decide)) (Nat.zero_le _) (Nat.zero_le _) ?_⟩
  rintro w2 ⟨H2, hK2⟩
  have hK2 := mo_K_t hK1 hK2
  refine ⟨hw_o_of H2.2.1 rfl rfl, hw_cv_0 (by decide) (by decide) (ct_Mo_expect l g w2 H2 hW (by decide)) (Nat.zero_le _) (Nat.zero_le _) ?_⟩
  rintro w3 ⟨H3, hK3⟩
  have hK3 := mo_K_t hK2 hK3
  have k0 : mo_k65 ma ma lt lt := ⟨fun _ _ => rfl, fun _ _ => rfl⟩
  have FT : ∀ (k' : Nat) (ft1 nx1 : Int32), (mo_rd ch bg1 en1 n).1 = none → (mo_rd ch bg1 en1 n).2 = k' → ft1 = mo_fl (-1) n k' L bg1 → ∀ (k1 : Nat), k1 < 1000 → ∀ w3 : hw_H, mo_I g w3 r 0 (nI n) (nI k1) (nI L) ft1 va cl lv hg em hn pl ch bg1 en1 ma lt nu hh kn bf → mo_K w w3 r → hw_o w3 (r 9) "ProofCourtModel" ∧ hw_ci l g (hw_R 5 0 0) 0 0 ym_Mo_take (mw_Mo_take) 4 [.ref (r 9), .int (1 : Int32), .int (10 : Int32)] w3 (fun (k11 n12 : Nat) (x_13 : Int32) (w10 : hw_H) => hw_o w10 (r 9) "ProofCourtModel" ∧ hw_ci l g (hw_R 5 0 0) k11 n12 ym_Mo_take (mw_Mo_take) 4 [.ref (r 9), .int (0 : Int32), .int (24 : Int32)] w10 (fun (k15 n16 : Nat) (x_17 : Int32) (w14 : hw_H) => hw_Ji p l e (hw_R 5 0 0) s m args below meth c 4 g A (fun r0 w' => mo_K w w' r ∧ ∃ (n : Nat) (bg1 en1 : Nat → Int32), n = (mo_cw ch L true (L + 1) 0 true false).length ∧ n ≤ 80 ∧ mo_wl L (mo_cw ch L true (L + 1) 0 true false) bg1 en1 ∧ ((∃ k', (mo_rd ch bg1 en1 n).1 = none ∧ (mo_rd ch bg1 en1 n).2 = k' ∧ r0 = -1 - mo_fl (-1) n k' L bg1 ∧ ∃ (nx' ft' : Int32) (ma' lt' : Nat → Int32), mo_a ma' lt' ∧ mo_k65 ma ma' lt lt' ∧ mo_I g w' r 0 (nI n) nx' (nI L) ft' va cl lv hg em hn pl ch bg1 en1 ma' lt' nu hh kn bf) ∨ (∃ (v : Nat) (cs : mo_C), (mo_rd ch bg1 en1 n).1 = some (nI v, cs) ∧ 1 ≤ v ∧ v ≤ 10 ∧ cs.length ≤ 24 ∧ r0 = nI cs.length ∧ ∃ (nx' : Int32) (ma' lt' nu' : Nat → Int32), mo_a ma' lt' ∧ mo_sb 0 cs.length cs ma' lt' ∧ mo_I g w' r 0 (nI n) nx' (nI L) (-1) (nI v) (nI cs.length) (nI cs.length) (nI cs.length) 0 hn pl ch bg1 en1 ma' lt' nu' hh kn bf))) k15 n16 41 [some (.ref (r 9)), some (.int x_13), some (.int x_17), some (.int (0 : Int32))] [] w14)) := by
    intro k' ft1 nx1 e1 e2 e3 k1 hk1 w3 H3 hK3
    subst e3
    refine ⟨hw_o_of H3.2.1 rfl rfl, hw_ci_0 (by decide) (by decide) (ct_Mo_take l g w3 H3 hW hk1) (Nat.zero_le _) (Nat.zero_le _) ?_⟩
    rintro r4 w4 ⟨hK4, hcase⟩
    rcases hcase with ⟨-, rfl, H4⟩ | ⟨z, -⟩ | ⟨z, -⟩
    rotate_left
    · exact absurd z (hP k')
    · exact absurd z (hP k')
    refine ⟨hw_o_of H4.2.1 rfl rfl, hw_ci_0 (by decide) (by decide) (ct_Mo_take l g w4 H4 hW hk1) (Nat.zero_le _) (Nat.zero_le _) ?_⟩
    rintro r5 w5 ⟨hK5, hcase⟩
    rcases hcase with ⟨-, rfl, H5⟩ | ⟨z, -⟩ | ⟨z, -⟩
    rotate_left
    · exact absurd z (hP k')
    · exact absurd z (hP k')
    exact F41 _ _ _ k' _ ma lt w5 e1 e2 hma k0 H5 (mo_K_t (mo_K_t hK3 hK4) hK5)
  by_cases h0 : mo_ik ch bg1 en1 n 0 112 0 0 = true
  rotate_left
  · have hr : mo_rd ch bg1 en1 n = (none, 0) := by unfold mo_rd; rw [if_neg h0]
    rw [if_neg h0] at H3
    refine FT 0 _ 0 (by rw [hr]) (by rw [hr]) ?_ 2 (by decide) w3 H3 hK3
    rw [mo_fl_2 (hP 0)]; exact ite_self _
  by_cases h1 : mo_ik ch bg1 en1 n 1 99 110 102 = true
  rotate_left
  · have hr : mo_rd ch bg1 en1 n = (none, 1) := by unfold mo_rd; rw [if_pos h0, if_neg h1]
    rw [if_pos h0, if_neg h1] at H3
    exact FT 1 _ 0 (by rw [hr]) (by rw [hr]) rfl 2 (by decide) w3 H3 hK3
  rw [if_pos h0, if_pos h1] at H3
  refine ⟨hw_o_of H3.2.1 rfl rfl, hw_ci_0 (by decide) (by decide) (ct_Mo_take l g w3 H3 hW (by decide)) (Nat.zero_le _) (Nat.zero_le _) ?_⟩
  rintro r4 w4 ⟨hK4, hcase⟩
  have hK4 := mo_K_t hK3 hK4
  rcases hcase with ⟨z, -⟩ | ⟨-, h2, rfl, H4⟩ | ⟨-, h2, rfl, H4⟩
  · exact absurd m1 z
  rotate_left
  · have hr : mo_rd ch bg1 en1 n = (none, 2) := by unfold mo_rd; rw [if_pos h0, if_pos h1, if_neg (by rw [h2]; decide)]
    refine ⟨hw_o_of H4.2.1 rfl rfl, hw_ci_0 (by decide) (by decide) (ct_Mo_take l g w4 H4 hW (by decide)) (Nat.zero_le _) (Nat.zero_le _) ?_⟩
    rintro r5 w5 ⟨hK5, hcase⟩
    rcases hcase with ⟨-, rfl, H5⟩ | ⟨z, -⟩ | ⟨z, -⟩
    rotate_left
    · exact absurd z (hP 2)
    · exact absurd z (hP 2)
    exact F41 _ _ _ 2 _ ma lt w5 (by rw [hr]) (by rw [hr]) hma k0 H5 (mo_K_t hK4 hK5)
  refine ⟨hw_o_of H4.2.1 rfl rfl, hw_ci_0 (by decide) (by decide) (ct_Mo_take l g w4 H4 hW (by decide)) (Nat.zero_le _) (Nat.zero_le _) ?_⟩
  rintro r5 w5 ⟨hK5, hcase⟩
  have hK5 := mo_K_t hK4 hK5
  rcases hcase with ⟨z, -⟩ | ⟨-, h3, rfl, H5⟩ | ⟨-, h3, rfl, H5⟩
  · exact absurd m1 z
  rotate_left
  · have hr : mo_rd ch bg1 en1 n = (none, 3) := by unfold mo_rd; rw [if_pos h0, if_pos h1, if_pos h2, if_neg (by rw [h3]; decide)]
    exact F41 _ _ _ 3 _ ma lt w5 (by rw [hr]) (by rw [hr]) hma k0 H5 hK5
  have hr : mo_re (mo_wk ch bg1 en1 2) n (mo_rl ch bg1 en1 n (mo_wk ch bg1 en1 2) (mo_wk ch bg1 en1 3).toNatClampNeg 4 []) = mo_rd ch bg1 en1 n := by unfold mo_rd; rw [if_pos h0, if_pos h1, if_pos h2, if_pos h3]
  obtain ⟨v, hv1, hv2, hv3⟩ := tx_in10 (mo_nk_in h2).2
  obtain ⟨m0, hm1, hm2, hm3⟩ := tx_in24 (mo_nk_in h3).2
  rw [hm3, hv3] at hr
  rw [hv3, hm2]
  exact L41 v m0 hv1 hv2 hm1 m0 0 4 [] ma lt w5 (by omega) rfl (by decide) hma (fun i ls hi => absurd hi (Nat.not_lt_zero _)) k0 hr H5 hK5
