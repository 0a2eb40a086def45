def mo_rc (ch bg en : Nat → Int32) (n : Nat) (v : Int32) : Nat → Nat → List Int32 → Option (List Int32) × Nat
  | 0, k, _ => (none, k)
  | d + 1, k, ls => if mo_nk ch bg en n k (-v) v = true then (if mo_wk ch bg en k = 0 then (some ls, k + 1) else if mo_wk ch bg en k ∈ ls then mo_rc ch bg en n v d (k + 1) ls else if ls.length = 6 then (none, k) else mo_rc ch bg en n v d (k + 1) (mo_wk ch bg en k :: ls)) else (none, k)
def mo_lc (kc : Nat) (ls : List Int32) (lt lt' : Nat → Int32) : Prop := cl_ar (fun i => lt' (6 * kc + i)) ls ∧ (∀ x, x ∈ ls → mo_l x) ∧ ∀ q, q < 6 * kc ∨ 6 * kc + ls.length ≤ q → lt' q = lt q
theorem mo_cl_s {lt : Nat → Int32} {kc : Nat} {ls : List Int32} {x : Int32} (h : cl_ar (fun i => lt (6 * kc + i)) ls) (hl : ls.length < 6) : cl_ar (fun i => upd lt (6 * kc + ls.length) x (6 * kc + i)) (x :: ls) := by
  have e : (fun i => upd lt (6 * kc + ls.length) x (6 * kc + i)) = upd (fun i => lt (6 * kc + i)) ls.length x := by
    funext i
    by_cases hi : i = ls.length
    · subst hi; rw [pk_us, pk_us]
    · rw [pk_un hi, pk_un (by omega)]
  rw [e]; exact cl_ar_s h hl
theorem cl_ar_m {f : Nat → Int32} {ls : List Int32} {x : Int32} (h : cl_ar f ls) : (∃ i, i < ls.length ∧ f i = x) ↔ x ∈ ls := by
  constructor
  · rintro ⟨i, hi, he⟩
    rw [h.2 i hi, List.getD_eq_getElem?_getD, List.getElem?_eq_getElem (by simpa using hi)] at he
    rw [← List.mem_reverse, ← he]
    exact List.getElem_mem _
  · intro hx
    rw [← List.mem_reverse] at hx
    obtain ⟨i, hi, he⟩ := List.mem_iff_getElem.mp hx
    have hi2 : i < ls.length := by simpa using hi
    refine ⟨i, hi2, ?_⟩
    rw [h.2 i hi2, List.getD_eq_getElem?_getD, List.getElem?_eq_getElem hi]
    exact he
theorem mo_a_lc {ma lt lt' : Nat → Int32} {kc : Nat} {ls : List Int32} (h : mo_a ma lt) (h2 : mo_lc kc ls lt lt') : mo_a (upd ma kc (nI ls.length)) lt' := by
  obtain ⟨h3, h4, h5⟩ := h2
  refine ⟨fun i hi => ?_, fun q hq => ?_⟩
  · by_cases hic : i = kc
    · subst hic; exact ⟨ls.length, h3.1, pk_us⟩
    · rw [pk_un hic]; exact h.1 i hi
  · by_cases hin : q < 6 * kc ∨ 6 * kc + ls.length ≤ q
    · rw [h5 q hin]; exact h.2 q hq
    · refine h4 _ ((cl_ar_m h3).mp ⟨q - 6 * kc, by omega, ?_⟩)
      show lt' (6 * kc + (q - 6 * kc)) = lt' q
      rw [show 6 * kc + (q - 6 * kc) = q by omega]
set_option maxHeartbeats 4000000 in
set_option maxRecDepth 100000 in
theorem ct_Mo_readClause (l : Launch) (g : hw_G) (w : hw_H) {r : Nat → Nat} {ty ft va cl lv hg em hn pl : Int32} {ch bg en ma lt nu hh kn bf : Nat → Int32} {k n L : Nat} {kc v : Nat} (H : mo_I g w r ty (nI n) (nI k) (nI L) ft va cl lv hg em hn pl ch bg en ma lt nu hh kn bf) (hW : mo_W n bg en L) (hk : k < 1000) (hc : kc < 89) (hv : v ≤ 10) (hft : ft < 0) : hw_Mv l g ym_Mo_readClause mw_Mo_readClause (hw_R 4 0 0) [.ref (r 9), .int (nI kc), .int (nI v)] w (fun w' => ∃ (o : Option (List Int32)) (k' : Nat) (ls : List Int32) (lt' : Nat → Int32), mo_rc ch bg en n (nI v) 81 k [] = (o, k') ∧ (∀ ls', o = some ls' → ls = ls') ∧ k' < 1000 ∧ mo_lc kc ls lt lt' ∧ mo_I g w' r ty (nI n) (nI k') (nI L) (if o.isSome = true then ft else mo_fl ft n k' L bg) va cl lv hg em hn pl ch bg en (upd ma kc (nI ls.length)) lt' nu hh kn bf ∧ mo_K w w' r) := by
  refine hw_enterv (r := 3) rfl rfl (by simp [Value.category]) (Nat.le_of_ble_eq_true rfl) ?_
  intro p e s m args below meth c A X hr hlk hnm
  refine sg_Mo_readClause_0 X (fun _ _ _ _ _ _ h => h) (hw_rtv X hr hlk) ?_
  unfold vc_Mo_readClause_0
  have H0 := H
  obtain ⟨D, M, A0, A1, A2, A3, A4, A5, A6, A7, A8⟩ := H
  have hQ := hW
  obtain ⟨hn0, hL0, hw0⟩ := hW
  generalize hRES : mo_rc ch bg en n (nI v) 81 k [] = RES
  have hft0 : ¬ (0 : Int32) ≤ ft := Int32.not_le.mpr hft
  have E9 : ∀ (o : Option (List Int32)) (k' : Nat) (ls : List Int32) (lt' : Nat → Int32) (w1 : hw_H), RES = (o, k') → (∀ ls', o = some ls' → ls = ls') → k' < 1000 → mo_lc kc ls lt lt' → mo_I g w1 r ty (nI n) (nI k') (nI L) (if o.isSome = true then ft else mo_fl ft n k' L bg) va cl lv hg em hn pl ch bg en (upd ma kc (nI ls.length)) lt' nu hh kn bf → mo_K w w1 r → hw_Jv p l e (hw_R 4 0 0) s m args below meth c 6 g A (fun w' => ∃ (o : Option (List Int32)) (k' : Nat) (ls : List Int32) (lt' : Nat → Int32), RES = (o, k') ∧ (∀ ls', o = some ls' → ls = ls') ∧ k' < 1000 ∧ mo_lc kc ls lt lt' ∧ mo_I g w' r ty (nI n) (nI k') (nI L) (if o.isSome = true then ft else mo_fl ft n k' L bg) va cl lv hg em hn pl ch bg en (upd ma kc (nI ls.length)) lt' nu hh kn bf ∧ mo_K w w' r) 0 0 9 [some (.ref (r 9)), some (.int (nI kc)), some (.int (nI v)), some (.int (0 : Int32)), none, none] [] w1 := by
    intro o k' ls lt' w1 e1 e2 e3 e4 e5 e6
    refine sg_Mo_readClause_9 X (fun _ _ _ _ _ _ h => h) (hw_rtv X hr hlk) ?_
    unfold vc_Mo_readClause_9
    exact ⟨fun _ => ⟨hw_00, o, k', ls, lt', e1, e2, e3, e4, e5, e6⟩, fun h => absurd rfl h⟩
  have F9 : ∀ (k' : Nat) (ls : List Int32) (lt' : Nat → Int32) (w1 : hw_H), RES = (none, k') → k' < 1000 → mo_lc kc ls lt lt' → mo_I g w1 r ty (nI n) (nI k') (nI L) (mo_fl ft n k' L bg) va cl lv hg em hn pl ch bg en (upd ma kc (nI ls.length)) lt' nu hh kn bf → mo_K w w1 r → hw_Jv p l e (hw_R 4 0 0) s m args below meth c 6 g A (fun w' => ∃ (o : Option (List Int32)) (k' : Nat) (ls : List Int32) (lt' : Nat → Int32), RES = (o, k') ∧ (∀ ls', o = some ls' → ls = ls') ∧ k' < 1000 ∧ mo_lc kc ls lt lt' ∧ mo_I g w' r ty (nI n) (nI k') (nI L) (if o.isSome = true then ft else mo_fl ft n k' L bg) va cl lv hg em hn pl ch bg en (upd ma kc (nI ls.length)) lt' nu hh kn bf ∧ mo_K w w' r) 0 0 9 [some (.ref (r 9)), some (.int (nI kc)), some (.int (nI v)), some (.int (1 : Int32)), none, none] [] w1 := by
    intro k' ls lt' w1 e1 e3 e4 e5 e6
    refine sg_Mo_readClause_9 X (fun _ _ _ _ _ _ h => h) (hw_rtv X hr hlk) ?_
    unfold vc_Mo_readClause_9
    refine ⟨fun h => absurd h (by decide), fun _ => ⟨_, ⟨_, e5.2.1, rfl⟩, fun _ => ⟨hw_00, none, k', ls, lt', e1, fun _ z => (by cases z), e3, e4, ?_, e6⟩, fun h => absurd (Int32.not_lt.mp (mo_fl_p hQ)) h⟩⟩
    rw [if_neg (by decide)]
    exact e5
  have L1 : ∀ (d k1 : Nat) (ls : List Int32) (lt1 : Nat → Int32) (w1 : hw_H), n - k1 < d → k1 < 1000 → mo_lc kc ls lt lt1 → mo_I g w1 r ty (nI n) (nI k1) (nI L) ft va cl lv hg em hn pl ch bg en (upd ma kc (nI ls.length)) lt1 nu hh kn bf → mo_K w w1 r → mo_rc ch bg en n (nI v) d k1 ls = RES → hw_Jv p l e (hw_R 4 0 0) s m args below meth c 6 g A (fun w' => ∃ (o : Option (List Int32)) (k' : Nat) (ls : List Int32) (lt' : Nat → Int32), RES = (o, k') ∧ (∀ ls', o = some ls' → ls = ls') ∧ k' < 1000 ∧ mo_lc kc ls lt lt' ∧ mo_I g w' r ty (nI n) (nI k') (nI L) (if o.isSome = true then ft else mo_fl ft n k' L bg) va cl lv hg em hn pl ch bg en (upd ma kc (nI ls.length)) lt' nu hh kn bf ∧ mo_K w w' r) 0 0 9 [some (.ref (r 9)), some (.int (nI kc)), some (.int (nI v)), some (.int (1 : Int32)), none, none] [] w1 := by
    intro d
    induction d with
    | zero => intro k1 ls lt1 w1 hd; omega
    | succ d ih =>
      intro k1 ls lt1 w1 hd hk1 hlc H1 hK1 hres
      have hlc0 := hlc
      obtain ⟨c1, c2, c3⟩ := hlc
      have hl6 := c1.1
      rw [mo_rc.eq_2] at hres
      refine sg_Mo_readClause_9 X (fun _ _ _ _ _ _ h => h) (hw_rtv X hr hlk) ?_
      unfold vc_Mo_readClause_9
      refine ⟨fun h => absurd h (by decide), fun _ => ⟨_, ⟨_, H1.2.1, rfl⟩, fun h => absurd h hft0, fun _ => ⟨_, ⟨_, H1.2.1, rfl⟩, hw_o_of H1.2.1 rfl rfl, hw_ci_0 (by decide) (by decide) (ct_Mo_take l g w1 H1 hQ hk1) (Nat.zero_le _) (Nat.zero_le _) ?_⟩⟩⟩
      rintro r1 w2 ⟨hK2, hcase⟩
      have hK2 := mo_K_t hK1 hK2
      rcases hcase with ⟨z, -⟩ | ⟨-, hnk, hr1, H2⟩ | ⟨-, hnk, hr1, H2⟩
      · exact absurd hft z
      rotate_left
      · rw [if_neg (by rw [hnk]; decide)] at hres
        subst hr1
        refine ⟨fun _ => E9 none k1 ls lt1 w2 hres.symm (fun _ z => by cases z) hk1 hlc0 ?_ hK2, fun h => absurd rfl h⟩
        rw [if_neg (by decide)]
        exact H2
      rw [if_pos hnk] at hres
      obtain ⟨hkn, hin⟩ := mo_nk_in hnk
      have hml := mo_l_in hv hin
      refine ⟨fun h => ?_, fun h => ⟨hw_o_of H2.2.1 rfl rfl, hw_ci_0 (by decide) (by decide) (ct_Mo_hasLiteral l g w2 H2 hc pk_us hl6) (Nat.zero_le _) (Nat.zero_le _) ?_⟩⟩
      · rw [hr1] at h
        rw [if_pos h] at hres
        refine E9 (some ls) (k1 + 1) ls lt1 w2 hres.symm (fun ls' z => by cases z; rfl) (by omega) hlc0 ?_ hK2
        rw [if_pos (show (some ls).isSome = true from rfl)]
        exact H2
      rw [hr1] at h ⊢
      rw [if_neg h] at hres
      rintro r3 w3 ⟨rfl, hcase⟩
      have hmem := cl_ar_m (x := mo_wk ch bg en k1) c1
      refine ⟨fun h3 => ?_, fun h3 => ⟨_, ⟨_, H2.2.1, rfl⟩, _, hw_rv H2.2.2.2.2.2.1 hc (by decide) pk_us, fun h4 => ?_, fun h4 => ?_⟩⟩
      · rcases hcase with z | z
        · exact absurd z.1 h3
        · rw [if_pos (hmem.mp z.2)] at hres
          exact ih (k1 + 1) ls lt1 _ (by omega) (by omega) hlc0 H2 hK2 hres
      · have h5 : ¬ mo_wk ch bg en k1 ∈ ls := by
          rcases hcase with z | z
          · intro hm
            obtain ⟨i, hi, he⟩ := hmem.mpr hm
            exact z.2 i hi he
          · rw [z.1] at h3; exact absurd h3 (by decide)
        have h6 : ¬ ls.length = 6 := fun z => h4 (by rw [z]; rfl)
        rw [if_neg h5, if_neg h6] at hres
        have H3 := mo_u4 (upd lt1 (6 * kc + ls.length) (mo_wk ch bg en k1)) H2
        have H4 := mo_u3 (upd (upd ma kc (nI ls.length)) kc (nI (ls.length + 1))) H3
        refine ⟨_, ⟨_, H2.2.1, rfl⟩, _, ⟨_, H2.2.1, rfl⟩, _, hw_rv H2.2.2.2.2.2.1 hc (by decide) pk_us, _, hw_wx (6 * kc + ls.length) H2.2.2.2.2.2.2.1 (mo_ix kc ls.length) (by omega) (by decide), _, ⟨_, H3.2.1, rfl⟩, _, ⟨_, H3.2.1, rfl⟩, _, hw_rv H3.2.2.2.2.2.1 hc (by decide) pk_us, _, hw_wr H3.2.2.2.2.2.1 hc (by decide), ?_⟩
        rw [nI_1]
        have e7 : upd (upd ma kc (nI ls.length)) kc (nI (ls.length + 1)) = upd ma kc (nI (ls.length + 1)) := by
          funext i
          by_cases hi : i = kc
          · subst hi; rw [pk_us, pk_us]
          · rw [pk_un hi, pk_un hi, pk_un hi]
        refine ih (k1 + 1) (mo_wk ch bg en k1 :: ls) (upd lt1 (6 * kc + ls.length) (mo_wk ch bg en k1)) _ (by omega) (by omega) ⟨mo_cl_s c1 (by omega), ?_, ?_⟩ ?_ (mo_K_u (mo_K_u hK2 (by decide)) (by decide)) hres
        · intro x hx
          rcases List.mem_cons.mp hx with z | z
          · rw [z]; exact hml
          · exact c2 x z
        · intro q hq
          have hq2 : q < 6 * kc ∨ 6 * kc + (ls.length + 1) ≤ q := hq
          rw [pk_un (by omega)]; exact c3 q (by omega)
        · rw [e7] at H4 ⊢
          exact H4
      · have h5 : ¬ mo_wk ch bg en k1 ∈ ls := by
          rcases hcase with z | z
          · intro hm
            obtain ⟨i, hi, he⟩ := hmem.mpr hm
            exact z.2 i hi he
          · rw [z.1] at h3; exact absurd h3 (by decide)
        have h6 : ls.length = 6 := (nI_eq (b := 6) (by omega) (by omega)).mp h4
        rw [if_neg h5, if_pos h6] at hres
        have H3 := mo_u9 ty (nI n) (nI k1) (nI L) ft va cl lv hg em hn pl H2
        refine ⟨_, ⟨_, H2.2.1, Nat.le_of_ble_eq_true rfl, rfl⟩, hw_o_of (va_up_self _ _ _) rfl rfl, hw_cv_0 (by decide) (by decide) (ct_Mo_fail l g _ H3 hQ hk1) (Nat.zero_le _) (Nat.zero_le _) ?_⟩
        rintro w4 ⟨H4, hK4⟩
        exact F9 k1 ls lt1 w4 hres.symm hk1 hlc0 H4 (mo_K_t (mo_K_u hK2 (by decide)) hK4)
  refine ⟨_, ⟨_, M, rfl⟩, _, hw_wr A3 hc (by decide), ?_⟩
  exact L1 81 k [] lt _ (by omega) hk ⟨cl_ar_0, fun x z => (by cases z), fun _ _ => rfl⟩ (mo_u3 _ H0) (mo_K_u mo_K_r (by decide)) hRES
set_option maxHeartbeats 4000000 in
set_option maxRecDepth 100000 in
theorem ct_Mo_readClauseE (l : Launch) (g : hw_G) (w : hw_H) {r : Nat → Nat} {ty ft va cl lv hg em hn pl : Int32} {ch bg en ma lt nu hh kn bf : Nat → Int32} {k n L : Nat} {kc v : Nat} (H : mo_I g w r ty (nI n) (nI k) (nI L) ft va cl lv hg em hn pl ch bg en ma lt nu hh kn bf) (hW : mo_W n bg en L) (hk : k < 1000) (hc : kc < 89) (hv : v ≤ 10) (hft : ¬ ft < 0) : hw_Mv l g ym_Mo_readClause mw_Mo_readClause (hw_R 4 0 0) [.ref (r 9), .int (nI kc), .int (nI v)] w (fun w' => mo_I g w' r ty (nI n) (nI k) (nI L) ft va cl lv hg em hn pl ch bg en (upd ma kc 0) lt nu hh kn bf ∧ mo_K w w' r) := by
  refine hw_enterv (r := 3) rfl rfl (by simp [Value.category]) (Nat.le_of_ble_eq_true rfl) ?_
  intro p e s m args below meth c A X hr hlk hnm
  refine sg_Mo_readClause_0 X (fun _ _ _ _ _ _ h => h) (hw_rtv X hr hlk) ?_
  unfold vc_Mo_readClause_0
  have H0 := H
  obtain ⟨D, M, A0, A1, A2, A3, A4, A5, A6, A7, A8⟩ := H
  refine ⟨_, ⟨_, M, rfl⟩, _, hw_wr A3 hc (by decide), ?_⟩
  have H1 := mo_u3 (upd ma kc 0) H0
  refine sg_Mo_readClause_9 X (fun _ _ _ _ _ _ h => h) (hw_rtv X hr hlk) ?_
  unfold vc_Mo_readClause_9
  exact ⟨fun h => absurd h (by decide), fun _ => ⟨_, ⟨_, H1.2.1, rfl⟩, fun _ => ⟨hw_00, H1, mo_K_u mo_K_r (by decide)⟩, fun h => absurd (Int32.not_lt.mp hft) h⟩⟩
set_option maxHeartbeats 4000000 in
set_option maxRecDepth 100000 in
theorem ct_Mo_readHints (l : Launch) (g : hw_G) (w : hw_H) {r : Nat → Nat} {ty ft va cl lv hg em hn pl : Int32} {ch bg en ma lt nu hh kn bf : Nat → Int32} {k n L : Nat} {lo : Int32} (H : mo_I g w r ty (nI n) (nI k) (nI L) ft va cl lv hg em hn pl ch bg en ma lt nu hh kn bf) (hW : mo_W n bg en L) (hk : k < 1000) : hw_Mv l g ym_Mo_readHints mw_Mo_readHints (hw_R 4 0 0) [.ref (r 9), .int lo] w (fun w' => ∃ (k' j : Nat) (ft' : Int32) (hh' : Nat → Int32), k' < 1000 ∧ j ≤ 12 ∧ mo_I g w' r ty (nI n) (nI k') (nI L) ft' va cl lv hg em (nI j) pl ch bg en ma lt nu hh' kn bf ∧ mo_K w w' r) := by
  refine hw_enterv (r := 3) rfl rfl (by simp [Value.category]) (Nat.le_of_ble_eq_true rfl) ?_
  intro p e s m args below meth c A X hr hlk hnm
  refine sg_Mo_readHints_0 X (fun _ _ _ _ _ _ h => h) (hw_rtv X hr hlk) ?_
  unfold vc_Mo_readHints_0
  have H0 := H
  obtain ⟨D, M, A0, A1, A2, A3, A4, A5, A6, A7, A8⟩ := H
  have hQ := hW
  obtain ⟨hn0, hL0, hw0⟩ := hW
  have E7 : ∀ (k1 j : Nat) (ft1 : Int32) (hh1 : Nat → Int32) (w1 : hw_H), k1 < 1000 → j ≤ 12 → mo_I g w1 r ty (nI n) (nI k1) (nI L) ft1 va cl lv hg em (nI j) pl ch bg en ma lt nu hh1 kn bf → mo_K w w1 r → hw_Jv p l e (hw_R 4 0 0) s m args below meth c 5 g A (fun w' => ∃ (k' j : Nat) (ft' : Int32) (hh' : Nat → Int32), k' < 1000 ∧ j ≤ 12 ∧ mo_I g w' r ty (nI n) (nI k') (nI L) ft' va cl lv hg em (nI j) pl ch bg en ma lt nu hh' kn bf ∧ mo_K w w' r) 0 0 7 [some (.ref (r 9)), some (.int lo), some (.int (0 : Int32)), none, none] [] w1 := by
    intro k1 j ft1 hh1 w1 e1 e2 e3 e4
    refine sg_Mo_readHints_7 X (fun _ _ _ _ _ _ h => h) (hw_rtv X hr hlk) ?_
    unfold vc_Mo_readHints_7
    exact ⟨fun _ => ⟨hw_00, k1, j, ft1, hh1, e1, e2, e3, e4⟩, fun h => absurd rfl h⟩
  have F7 : ∀ (k1 j : Nat) (ft1 : Int32) (hh1 : Nat → Int32) (w1 : hw_H), k1 < 1000 → j ≤ 12 → ¬ ft1 < 0 → mo_I g w1 r ty (nI n) (nI k1) (nI L) ft1 va cl lv hg em (nI j) pl ch bg en ma lt nu hh1 kn bf → mo_K w w1 r → hw_Jv p l e (hw_R 4 0 0) s m args below meth c 5 g A (fun w' => ∃ (k' j : Nat) (ft' : Int32) (hh' : Nat → Int32), k' < 1000 ∧ j ≤ 12 ∧ mo_I g w' r ty (nI n) (nI k') (nI L) ft' va cl lv hg em (nI j) pl ch bg en ma lt nu hh' kn bf ∧ mo_K w w' r) 0 0 7 [some (.ref (r 9)), some (.int lo), some (.int (1 : Int32)), none, none] [] w1 := by
    intro k1 j ft1 hh1 w1 e1 e2 e5 e3 e4
    refine sg_Mo_readHints_7 X (fun _ _ _ _ _ _ h => h) (hw_rtv X hr hlk) ?_
    unfold vc_Mo_readHints_7
    exact ⟨fun h => absurd h (by decide), fun _ => ⟨_, ⟨_, e3.2.1, rfl⟩, fun _ => ⟨hw_00, k1, j, ft1, hh1, e1, e2, e3, e4⟩, fun h => absurd (Int32.not_lt.mp e5) h⟩⟩
  have L1 : ∀ (d k1 j : Nat) (hh1 : Nat → Int32) (w1 : hw_H), n - k1 < d → k1 < 1000 → j ≤ 12 → ft < 0 → mo_I g w1 r ty (nI n) (nI k1) (nI L) ft va cl lv hg em (nI j) pl ch bg en ma lt nu hh1 kn bf → mo_K w w1 r → hw_Jv p l e (hw_R 4 0 0) s m args below meth c 5 g A (fun w' => ∃ (k' j : Nat) (ft' : Int32) (hh' : Nat → Int32), k' < 1000 ∧ j ≤ 12 ∧ mo_I g w' r ty (nI n) (nI k') (nI L) ft' va cl lv hg em (nI j) pl ch bg en ma lt nu hh' kn bf ∧ mo_K w w' r) 0 0 7 [some (.ref (r 9)), some (.int lo), some (.int (1 : Int32)), none, none] [] w1 := by
    intro d
    induction d with
    | zero => intro k1 j hh1 w1 hd; omega
    | succ d ih =>
      intro k1 j hh1 w1 hd hk1 hj hft H1 hK1
      refine sg_Mo_readHints_7 X (fun _ _ _ _ _ _ h => h) (hw_rtv X hr hlk) ?_
      unfold vc_Mo_readHints_7
      refine ⟨fun h => absurd h (by decide), fun _ => ⟨_, ⟨_, H1.2.1, rfl⟩, fun h => absurd h (Int32.not_le.mpr hft), fun _ => ⟨_, ⟨_, H1.2.1, rfl⟩, hw_o_of H1.2.1 rfl rfl, hw_ci_0 (by decide) (by decide) (ct_Mo_take l g w1 H1 hQ hk1) (Nat.zero_le _) (Nat.zero_le _) ?_⟩⟩⟩
      rintro r1 w2 ⟨hK2, hcase⟩
      have hK2 := mo_K_t hK1 hK2
      rcases hcase with ⟨z, -⟩ | ⟨-, hnk, hr1, H2⟩ | ⟨-, hnk, hr1, H2⟩
      · exact absurd hft z
      rotate_left
      · subst hr1
        exact ⟨fun _ => E7 k1 j _ hh1 w2 hk1 hj H2 hK2, fun h => absurd rfl h⟩
      obtain ⟨hkn, hin⟩ := mo_nk_in hnk
      refine ⟨fun h => E7 (k1 + 1) j _ hh1 w2 (by omega) hj H2 hK2, fun h => ⟨_, ⟨_, H2.2.1, rfl⟩, fun h4 => ?_, fun h4 => ?_⟩⟩
      · have h6 : ¬ j = 12 := fun z => h4 (by rw [z]; rfl)
        have H3 := mo_u6 (upd hh1 j r1) H2
        refine ⟨_, ⟨_, H2.2.1, rfl⟩, _, ⟨_, H2.2.1, rfl⟩, _, hw_wr H2.2.2.2.2.2.2.2.2.1 (by omega) (by decide), _, ⟨_, H3.2.1, rfl⟩, _, ⟨_, H3.2.1, Nat.le_of_ble_eq_true rfl, rfl⟩, ?_⟩
        rw [nI_1]
        have H4 := mo_u9 ty (nI n) (nI (k1 + 1)) (nI L) ft va cl lv hg em (nI (j + 1)) pl H3
        exact ih (k1 + 1) (j + 1) _ _ (by omega) (by omega) (by omega) hft H4 (mo_K_u (mo_K_u hK2 (by decide)) (by decide))
      · have H3 := mo_u9 ty (nI n) (nI k1) (nI L) ft va cl lv hg em (nI j) pl H2
        refine ⟨_, ⟨_, H2.2.1, Nat.le_of_ble_eq_true rfl, rfl⟩, hw_o_of (va_up_self _ _ _) rfl rfl, hw_cv_0 (by decide) (by decide) (ct_Mo_fail l g _ H3 hQ hk1) (Nat.zero_le _) (Nat.zero_le _) ?_⟩
        rintro w4 ⟨H4, hK4⟩
        exact F7 k1 j _ hh1 w4 hk1 hj (mo_fl_p hQ) H4 (mo_K_t (mo_K_u hK2 (by decide)) hK4)
  refine ⟨_, ⟨_, M, Nat.le_of_ble_eq_true rfl, rfl⟩, ?_⟩
  have H1 := mo_u9 ty (nI n) (nI k) (nI L) ft va cl lv hg em (nI 0) pl H0
  by_cases hft : ft < 0
  · exact L1 (n + 1) k 0 hh _ (by omega) hk (by decide) hft H1 (mo_K_u mo_K_r (by decide))
  · exact F7 k 0 ft hh _ hk (by decide) hft H1 (mo_K_u mo_K_r (by decide))
