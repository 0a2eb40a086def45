theorem tx_run_z (Q : Int32 → Bool) (f : Nat → Int32) : ∀ (k p : Nat), tx_run Q f k p = p + k ∨ Q (f (tx_run Q f k p)) = false := by
  intro k
  induction k with
  | zero => intro p; exact Or.inl rfl
  | succ k ih =>
    intro p
    by_cases h : Q (f p) = true
    · have e : tx_run Q f (k + 1) p = tx_run Q f k (p + 1) := by
        rw [tx_run.eq_2, if_pos h]
      rw [e]
      rcases ih (p + 1) with h2 | h2
      · exact Or.inl (by omega)
      · exact Or.inr h2
    · have e : tx_run Q f (k + 1) p = p := by
        rw [tx_run.eq_2, if_neg h]
      rw [e]
      exact Or.inr (Bool.eq_false_iff.mpr h)
theorem tx_we_z {f : Nat → Int32} {len p : Nat} (h : p ≤ len) : tx_we f len p = len ∨ tx_bl (f (tx_we f len p)) = true := by
  rcases tx_run_z tx_nb f (len - p) p with z | z
  · exact Or.inl (show tx_run tx_nb f (len - p) p = len by omega)
  · refine Or.inr ?_
    have z2 : (!tx_bl (f (tx_we f len p))) = false := z
    simpa using z2
theorem tx_we_s {f : Nat → Int32} {len p : Nat} (h : p < len) (hb : tx_bl (f p) = false) : tx_we f len p = tx_we f len (p + 1) := by
  have hq : tx_nb (f p) = true := by unfold tx_nb; rw [hb]; rfl
  exact (tx_run_s h).trans (if_pos hq)
theorem tx_we_g {f : Nat → Int32} {len p : Nat} (h : p < len) (hb : tx_bl (f p) = true) : tx_we f len p = p := by
  have hq : ¬ tx_nb (f p) = true := by unfold tx_nb; rw [hb]; decide
  exact (tx_run_s h).trans (if_neg hq)
theorem tx_we_e {f : Nat → Int32} {len p : Nat} (h : len ≤ p) : tx_we f len p = p := tx_run_e h
/-- whether a word is a remark or stands in one -/
def mo_rr (ch : Nat → Int32) (L : Nat) (rem : Bool) (p : Nat) (st rm : Bool) : Bool := rm || (rem && (st && (decide (tx_we ch L p = p + 1) && decide (ch p = 99))))
/-- the words that are no remarks -/
def mo_cw (ch : Nat → Int32) (L : Nat) (rem : Bool) : Nat → Nat → Bool → Bool → List (Nat × Nat)
  | 0, _, _, _ => []
  | d + 1, p, st, rm => if L ≤ p then [] else if tx_bl (ch p) = true then mo_cw ch L rem d (p + 1) (st || decide (ch p = 10)) (rm && !decide (ch p = 10)) else if mo_rr ch L rem p st rm = true then mo_cw ch L rem d (tx_we ch L p) false true else (p, tx_we ch L p) :: mo_cw ch L rem d (tx_we ch L p) false false
def mo_wl (L : Nat) (ws : List (Nat × Nat)) (bg en : Nat → Int32) : Prop := ∀ (i : Nat) (x : Nat × Nat), ws[i]? = some x → x.1 < x.2 ∧ x.2 ≤ L ∧ bg i = nI x.1 ∧ en i = nI x.2
theorem mo_wl_W {L : Nat} {ws : List (Nat × Nat)} {bg en : Nat → Int32} (h : mo_wl L ws bg en) (hn : ws.length ≤ 80) (hL : L ≤ 160) : mo_W ws.length bg en L := ⟨hn, hL, fun i hi => ⟨_, _, h i ws[i] (List.getElem?_eq_getElem hi)⟩⟩
theorem mo_wl_s {L : Nat} {ws : List (Nat × Nat)} {bg en : Nat → Int32} {x : Nat × Nat} (h : mo_wl L ws bg en) (h1 : x.1 < x.2) (h2 : x.2 ≤ L) : mo_wl L (ws ++ [x]) (upd bg ws.length (nI x.1)) (upd en ws.length (nI x.2)) := by
  intro i y hy
  by_cases hi : i < ws.length
  · rw [List.getElem?_append_left hi] at hy
    rw [pk_un (by omega), pk_un (by omega)]
    exact h i y hy
  · rw [List.getElem?_append_right (by omega)] at hy
    by_cases hz : i - ws.length = 0
    · rw [hz] at hy
      cases hy
      have hi2 : i = ws.length := by omega
      subst hi2
      exact ⟨h1, h2, pk_us, pk_us⟩
    · rw [List.getElem?_eq_none (by simp; omega)] at hy
      cases hy
def mo_sp (ch : Nat → Int32) (L n p : Nat) : Prop := 2 * n ≤ p ∨ (2 * n ≤ p + 1 ∧ (L ≤ p ∨ tx_bl (ch p) = true))
set_option maxHeartbeats 4000000 in
set_option maxRecDepth 100000 in
theorem ct_Mo_cut (l : Launch) (g : hw_G) (w : hw_H) {r : Nat → Nat} {wo nx sz ft va cl lv hg em hn pl : Int32} {ch bg en ma lt nu hh kn bf : Nat → Int32} {L : Nat} {rem : Bool} (H : mo_I g w r (nI L) wo nx sz ft va cl lv hg em hn pl ch bg en ma lt nu hh kn bf) (hL : L ≤ 160) : hw_Mv l g ym_Mo_cut mw_Mo_cut (hw_R 2 0 0) [.ref (r 9), .int (hw_z rem)] w (fun w' => ∃ bg' en' : Nat → Int32, mo_wl L (mo_cw ch L rem (L + 1) 0 true false) bg' en' ∧ (mo_cw ch L rem (L + 1) 0 true false).length ≤ 80 ∧ mo_I g w' r 0 (nI (mo_cw ch L rem (L + 1) 0 true false).length) 0 (nI L) (-1) va cl lv hg em hn pl ch bg' en' ma lt nu hh kn bf ∧ mo_K w w' r) := by
  refine hw_enterv (r := 4) rfl rfl (by simp [Value.category]) (Nat.le_of_ble_eq_true rfl) ?_
  intro p e s m args below meth c A X hr hlk hnm
  refine sg_Mo_cut_0 X (fun _ _ _ _ _ _ h => h) (hw_rtv X hr hlk) ?_
  unfold vc_Mo_cut_0
  have H0 := H
  obtain ⟨D, M, A0, A1, A2, A3, A4, A5, A6, A7, A8⟩ := H
  generalize hWS : mo_cw ch L rem (L + 1) 0 true false = WS
  have L1 : ∀ (d p0 : Nat) (st rm : Bool) (pre : List (Nat × Nat)) (bg1 en1 : Nat → Int32) (w1 : hw_H), p0 ≤ L → L < p0 + d → mo_I g w1 r 0 (nI pre.length) 0 (nI L) (-1) va cl lv hg em hn pl ch bg1 en1 ma lt nu hh kn bf → mo_K w w1 r → mo_wl L pre bg1 en1 → mo_sp ch L pre.length p0 → pre ++ mo_cw ch L rem d p0 st rm = WS → hw_Jv p l e (hw_R 2 0 0) s m args below meth c 6 g A (fun w' => ∃ bg' en' : Nat → Int32, mo_wl L WS bg' en' ∧ WS.length ≤ 80 ∧ mo_I g w' r 0 (nI WS.length) 0 (nI L) (-1) va cl lv hg em hn pl ch bg' en' ma lt nu hh kn bf ∧ mo_K w w' r) 0 0 35 [some (.ref (r 9)), some (.int (hw_z rem)), some (.int (hw_z st)), some (.int (hw_z rm)), some (.int (nI p0)), none] [] w1 := by
    intro d
    induction d with
    | zero => intro p0 st rm pre bg1 en1 w1 hp hd; omega
    | succ d ih =>
      intro p0 st rm pre bg1 en1 w1 hp hd H1 hK1 hwl hsp hws
      have hn80 : pre.length ≤ 80 := by
        rcases hsp with z | z
        · omega
        · omega
      have M1 := H1.2.1
      have C1 := H1.2.2.1
      rw [mo_cw.eq_2] at hws
      refine sg_Mo_cut_35 X (fun _ _ _ _ _ _ h => h) (hw_rtv X hr hlk) ?_
      unfold vc_Mo_cut_35
      by_cases hLp : L ≤ p0
      · rw [if_pos hLp, List.append_nil] at hws
        subst hws
        exact ⟨_, ⟨_, M1, rfl⟩, fun _ => ⟨hw_00, bg1, en1, hwl, hn80, H1, hK1⟩, fun h => absurd (nI_le hLp (by omega)) h⟩
      rw [if_neg hLp] at hws
      refine ⟨_, ⟨_, M1, rfl⟩, fun h => absurd h (nI_ge (by omega) (by omega)), fun _ => ⟨hw_o_of M1 rfl rfl, hw_ci_0 (by decide) (by decide) (ct_Mo_isGap l g w1 H1 (by omega)) (Nat.zero_le _) (Nat.zero_le _) ?_⟩⟩
      rintro r1 w2 ⟨hr1, rfl⟩
      refine ⟨fun h1 => ?_, fun h1 => ?_⟩
      · rw [hr1] at h1
        have hb0 := (hw_z_eq _).mp h1
        rw [if_neg (by rw [hb0]; decide)] at hws
        have hp1 : 2 * pre.length ≤ p0 := by
          rcases hsp with z | z
          · exact z
          · rcases z.2 with z2 | z2
            · omega
            · rw [hb0] at z2; cases z2
        obtain ⟨Q, hQ⟩ : ∃ Q : Nat, Q = tx_we ch L p0 := ⟨_, rfl⟩
        have hQ1 : p0 + 1 ≤ Q ∧ Q ≤ L := by
          rw [hQ, tx_we_s (by omega) hb0]
          exact tx_we_b (by omega)
        have hQz : L ≤ Q ∨ tx_bl (ch Q) = true := by
          rcases tx_we_z (f := ch) (len := L) (p := p0) (by omega) with z | z
          · exact Or.inl (by omega)
          · rw [← hQ] at z; exact Or.inr z
        have e1 : (nI Q = nI p0 + 1) ↔ Q = p0 + 1 := by rw [nI_1]; exact nI_eq (by omega) (by omega)
        have hws : pre ++ (if mo_rr ch L rem p0 st rm = true then mo_cw ch L rem d Q false true else (p0, Q) :: mo_cw ch L rem d Q false false) = WS := by rw [hQ]; exact hws
        have G1 : mo_rr ch L rem p0 st rm = true → hw_Jv p l e (hw_R 2 0 0) s m args below meth c 6 g A (fun w' => ∃ bg' en' : Nat → Int32, mo_wl L WS bg' en' ∧ WS.length ≤ 80 ∧ mo_I g w' r 0 (nI WS.length) 0 (nI L) (-1) va cl lv hg em hn pl ch bg' en' ma lt nu hh kn bf ∧ mo_K w w' r) 0 0 35 [some (.ref (r 9)), some (.int (hw_z rem)), some (.int (0 : Int32)), some (.int (1 : Int32)), some (.int (nI Q)), none] [] w2 := by
          intro hrr
          rw [if_pos hrr] at hws
          exact ih Q false true pre bg1 en1 w2 hQ1.2 (by omega) H1 hK1 hwl (Or.inl (by omega)) hws
        have G0 : mo_rr ch L rem p0 st rm = false → hw_Jv p l e (hw_R 2 0 0) s m args below meth c 6 g A (fun w' => ∃ bg' en' : Nat → Int32, mo_wl L WS bg' en' ∧ WS.length ≤ 80 ∧ mo_I g w' r 0 (nI WS.length) 0 (nI L) (-1) va cl lv hg em hn pl ch bg' en' ma lt nu hh kn bf ∧ mo_K w w' r) 0 0 174 [some (.ref (r 9)), some (.int (hw_z rem)), some (.int (hw_z st)), some (.int (hw_z rm)), some (.int (nI p0)), some (.int (nI Q))] [] w2 := by
          intro hrr
          rw [if_neg (by rw [hrr]; decide)] at hws
          refine sg_Mo_cut_174 X (fun _ _ _ _ _ _ h => h) (hw_rtv X hr hlk) ?_
          unfold vc_Mo_cut_174
          have H2 := mo_u1 (upd bg1 pre.length (nI p0)) H1
          have H3 := mo_u2 (upd en1 pre.length (nI Q)) H2
          refine ⟨_, ⟨_, M1, rfl⟩, _, ⟨_, M1, rfl⟩, _, hw_wr H1.2.2.2.1 (by omega) (by decide), _, ⟨_, H2.2.1, rfl⟩, _, ⟨_, H2.2.1, rfl⟩, _, hw_wr H2.2.2.2.2.1 (by omega) (by decide), _, ⟨_, H3.2.1, rfl⟩, _, ⟨_, H3.2.1, Nat.le_of_ble_eq_true rfl, rfl⟩, ?_⟩
          rw [nI_1]
          have H4 := mo_u9 0 (nI (pre.length + 1)) 0 (nI L) (-1) va cl lv hg em hn pl H3
          have e5 : (pre ++ [(p0, Q)]).length = pre.length + 1 := by simp
          refine ih Q false false (pre ++ [(p0, Q)]) (upd bg1 pre.length (nI p0)) (upd en1 pre.length (nI Q)) _ hQ1.2 (by omega) (by rw [e5]; exact H4) (mo_K_u (mo_K_u (mo_K_u hK1 (by decide)) (by decide)) (by decide)) (mo_wl_s (x := (p0, Q)) hwl (show p0 < Q by omega) hQ1.2) ?_ ?_
          · rw [e5]; exact Or.inr ⟨by omega, hQz⟩
          · rw [List.append_assoc]; exact hws
        have G137 : hw_Jv p l e (hw_R 2 0 0) s m args below meth c 6 g A (fun w' => ∃ bg' en' : Nat → Int32, mo_wl L WS bg' en' ∧ WS.length ≤ 80 ∧ mo_I g w' r 0 (nI WS.length) 0 (nI L) (-1) va cl lv hg em hn pl ch bg' en' ma lt nu hh kn bf ∧ mo_K w w' r) 0 0 137 [some (.ref (r 9)), some (.int (hw_z rem)), some (.int (hw_z st)), some (.int (hw_z rm)), some (.int (nI p0)), some (.int (nI Q))] [] w2 := by
          refine sg_Mo_cut_137 X (fun _ _ _ _ _ _ h => h) (hw_rtv X hr hlk) ?_
          unfold vc_Mo_cut_137
          refine ⟨fun h2 => G1 ?_, fun h2 => ⟨fun h3 => G0 ?_, fun h3 => ⟨fun h4 => G0 ?_, fun h4 => ⟨fun h5 => G0 ?_, fun h5 => ⟨_, ⟨_, M1, rfl⟩, _, hw_rd C1 (by omega) (by decide), fun h6 => G0 ?_, fun h6 => G1 ?_⟩⟩⟩⟩⟩
          · unfold mo_rr; rw [(hw_z_ne _).mp h2]; rfl
          · unfold mo_rr; rw [(hw_z_eq _).mp h2, (hw_z_eq _).mp h3]; rfl
          · unfold mo_rr; rw [(hw_z_eq _).mp h2, (hw_z_eq _).mp h4]; simp
          · unfold mo_rr; rw [(hw_z_eq _).mp h2, ← hQ]; simp [mt e1.mpr h5]
          · unfold mo_rr; rw [(hw_z_eq _).mp h2]; simp [h6]
          · unfold mo_rr; rw [(hw_z_ne _).mp h3, (hw_z_ne _).mp h4, ← hQ]; simp [h6, e1.mp h5]
        have L110 : ∀ (d2 q0 : Nat), q0 + d2 = L → p0 ≤ q0 → tx_we ch L q0 = Q → hw_Jv p l e (hw_R 2 0 0) s m args below meth c 6 g A (fun w' => ∃ bg' en' : Nat → Int32, mo_wl L WS bg' en' ∧ WS.length ≤ 80 ∧ mo_I g w' r 0 (nI WS.length) 0 (nI L) (-1) va cl lv hg em hn pl ch bg' en' ma lt nu hh kn bf ∧ mo_K w w' r) 0 0 110 [some (.ref (r 9)), some (.int (hw_z rem)), some (.int (hw_z st)), some (.int (hw_z rm)), some (.int (nI p0)), some (.int (nI q0))] [] w2 := by
          intro d2
          induction d2 with
          | zero =>
            intro q0 hq hpq he
            rw [tx_we_e (by omega)] at he
            subst he
            refine sg_Mo_cut_110 X (fun _ _ _ _ _ _ h => h) (hw_rtv X hr hlk) ?_
            unfold vc_Mo_cut_110
            exact ⟨_, ⟨_, M1, rfl⟩, fun _ => G137, fun h => absurd (nI_le (by omega) (by omega)) h⟩
          | succ d2 ih2 =>
            intro q0 hq hpq he
            refine sg_Mo_cut_110 X (fun _ _ _ _ _ _ h => h) (hw_rtv X hr hlk) ?_
            unfold vc_Mo_cut_110
            refine ⟨_, ⟨_, M1, rfl⟩, fun h => absurd h (nI_ge (by omega) (by omega)), fun _ => ⟨hw_o_of M1 rfl rfl, hw_ci_0 (by decide) (by decide) (ct_Mo_isGap l g w2 H1 (by omega)) (Nat.zero_le _) (Nat.zero_le _) ?_⟩⟩
            rintro r3 w3 ⟨hr3, rfl⟩
            refine ⟨fun h7 => ?_, fun h7 y hy => ?_⟩
            · rw [hr3] at h7
              rw [tx_we_g (by omega) ((hw_z_ne _).mp h7)] at he
              subst he
              exact G137
            · rw [hr3] at h7
              rw [tx_we_s (by omega) ((hw_z_eq _).mp h7)] at he
              subst hy
              rw [nI_1]
              exact ih2 (q0 + 1) (by omega) (by omega) he
        exact L110 (L - p0) p0 (by omega) (Nat.le_refl _) hQ.symm
      · rw [hr1] at h1
        have hb1 := (hw_z_ne _).mp h1
        rw [if_pos hb1] at hws
        have hp1 : 2 * pre.length ≤ p0 + 1 := by
          rcases hsp with z | z
          · omega
          · exact z.1
        have G : ∀ (s' r' y : Int32), s' = hw_z (st || decide (ch p0 = 10)) → r' = hw_z (rm && !decide (ch p0 = 10)) → y = nI p0 + 1 → hw_Jv p l e (hw_R 2 0 0) s m args below meth c 6 g A (fun w' => ∃ bg' en' : Nat → Int32, mo_wl L WS bg' en' ∧ WS.length ≤ 80 ∧ mo_I g w' r 0 (nI WS.length) 0 (nI L) (-1) va cl lv hg em hn pl ch bg' en' ma lt nu hh kn bf ∧ mo_K w w' r) 0 0 35 [some (.ref (r 9)), some (.int (hw_z rem)), some (.int s'), some (.int r'), some (.int y), none] [] w2 := by
          rintro s' r' y rfl rfl rfl
          rw [nI_1]
          exact ih (p0 + 1) _ _ pre bg1 en1 w2 (by omega) (by omega) H1 hK1 hwl (Or.inl hp1) hws
        refine ⟨fun h2 => ⟨fun h3 y hy => G _ _ _ (by rw [(hw_z_ne _).mp h2]; rfl) (by rw [(hw_z_eq _).mp h3]; rfl) hy, fun h3 => ⟨_, ⟨_, M1, rfl⟩, _, hw_rd C1 (by omega) (by decide), fun h4 y hy => G _ _ _ (by rw [(hw_z_ne _).mp h2]; rfl) (by simp [h4, hw_z]) hy, fun h4 y hy => G _ _ _ (by rw [(hw_z_ne _).mp h2]; rfl) (by rw [(hw_z_ne _).mp h3]; simp [h4, hw_z]) hy⟩⟩, fun h2 => ⟨_, ⟨_, M1, rfl⟩, _, hw_rd C1 (by omega) (by decide), fun h4 => ⟨fun h3 y hy => G _ _ _ (by rw [(hw_z_eq _).mp h2]; simp [h4, hw_z]) (by rw [(hw_z_eq _).mp h3]; rfl) hy, fun h3 => ⟨_, ⟨_, M1, rfl⟩, _, hw_rd C1 (by omega) (by decide), fun h5 y hy => absurd h5 h4, fun h5 y hy => G _ _ _ (by rw [(hw_z_eq _).mp h2]; simp [h4, hw_z]) (by rw [(hw_z_ne _).mp h3]; simp [h4, hw_z]) hy⟩⟩, fun h4 => ⟨fun h3 y hy => G _ _ _ (by rw [(hw_z_eq _).mp h2]; simp [h4, hw_z]) (by rw [(hw_z_eq _).mp h3]; rfl) hy, fun h3 => ⟨_, ⟨_, M1, rfl⟩, _, hw_rd C1 (by omega) (by decide), fun h5 y hy => G _ _ _ (by rw [(hw_z_eq _).mp h2]; simp [h4, hw_z]) (by simp [h4, hw_z]) hy, fun h5 y hy => absurd h4 h5⟩⟩⟩⟩
  refine ⟨_, ⟨_, M, Nat.le_of_ble_eq_true rfl, rfl⟩, _, ⟨_, (va_up_self _ _ _), Nat.le_of_ble_eq_true rfl, rfl⟩, _, ⟨_, (va_up_self _ _ _), Nat.le_of_ble_eq_true rfl, rfl⟩, _, ⟨_, (va_up_self _ _ _), rfl⟩, _, ⟨_, (va_up_self _ _ _), Nat.le_of_ble_eq_true rfl, rfl⟩, _, ⟨_, (va_up_self _ _ _), Nat.le_of_ble_eq_true rfl, rfl⟩, ?_⟩
  rw [bx_uu, bx_uu, bx_uu, bx_uu]
  have H2 := mo_u9 0 0 0 (nI L) (-1) va cl lv hg em hn pl H0
  exact L1 (L + 1) 0 true false [] bg en _ (Nat.zero_le _) (by omega) H2 (mo_K_u mo_K_r (by decide)) (fun i x hx => by simp at hx) (Or.inl (Nat.zero_le _)) hWS
