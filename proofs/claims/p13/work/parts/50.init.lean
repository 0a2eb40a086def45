theorem nd_a {w w' : hw_H} {ls : List Nat} {q : Nat} {e : va_E} (h : ls.Nodup ∧ ∀ x, x ∈ ls → w x ≠ none) (hq : w q = none) (he : w' = va_up w q (some e)) : (ls ++ [q]).Nodup ∧ ∀ x, x ∈ ls ++ [q] → w' x ≠ none := by
  have hn : ¬ q ∈ ls := fun z => h.2 q z hq
  refine ⟨List.nodup_append.mpr ⟨h.1, by simp, ?_⟩, fun x hx => ?_⟩
  · intro a ha b hb hab
    rw [List.mem_singleton] at hb
    subst hb
    subst hab
    exact hn ha
  · rw [he]
    by_cases hxq : x = q
    · subst hxq; rw [va_up_self]; exact Option.some_ne_none _
    · rw [va_up_ne _ _ hxq]
      rcases List.mem_append.mp hx with z | z
      · exact h.2 x z
      · exact absurd (List.mem_singleton.mp z) hxq
theorem nd_u {w w' : hw_H} {ls : List Nat} {a : Nat} {e : va_E} (h : ls.Nodup ∧ ∀ x, x ∈ ls → w x ≠ none) (he : w' = va_up w a (some e)) : ls.Nodup ∧ ∀ x, x ∈ ls → w' x ≠ none := by
  refine ⟨h.1, fun x hx => ?_⟩
  rw [he]
  by_cases hxq : x = a
  · subst hxq; rw [va_up_self]; exact Option.some_ne_none _
  · rw [va_up_ne _ _ hxq]; exact h.2 x hx
theorem nd_g {ls : List Nat} (h : ls.Nodup) {n : Nat} (hn : ls.length = n) : ∀ i j, i < n → j < n → i ≠ j → ls.getD i 0 ≠ ls.getD j 0 := by
  intro i j hi hj hne
  have hi' : i < ls.length := by omega
  have hj' : j < ls.length := by omega
  rw [List.getD_eq_getElem?_getD, List.getD_eq_getElem?_getD, List.getElem?_eq_getElem hi', List.getElem?_eq_getElem hj']
  intro he
  rcases Nat.lt_or_gt_of_ne hne with z | z
  · exact List.pairwise_iff_getElem.mp h i j hi' hj' z he
  · exact List.pairwise_iff_getElem.mp h j i hj' hi' z he.symm
theorem fr_k {w v : hw_H} {S q : Nat} {e : va_E} (hk : ∀ a, w a ≠ none → a ≠ S → v a = w a) (hS : v S = some e) (hq : v q = none) : w q = none := Classical.byContradiction fun z => by
  by_cases hqS : q = S
  · subst hqS; rw [hS] at hq; cases hq
  · rw [hk q z hqS] at hq; exact z hq
theorem fr_u {w v v2 v3 : hw_H} {S q : Nat} {e1 e2 : Option va_E} (hk : ∀ a, w a ≠ none → a ≠ S → v a = w a) (hq : v q = none) (h2 : v2 = va_up v q e1) (h3 : v3 = va_up v2 S e2) : ∀ a, w a ≠ none → a ≠ S → v3 a = w a := by
  intro a h4 h5
  have h6 := hk a h4 h5
  rw [h3, va_up_ne _ _ h5, h2, va_up_ne]
  · exact h6
  · rintro rfl
    rw [h6] at hq
    exact h4 hq
theorem sx_I_a {g : hw_G} {w w' : hw_H} {q : Nat → Nat} {t : sx_T} {a : Nat} {e : Option va_E} (h : sx_I g w q t) (ha : w a = none) (he : w' = va_up w a e) : sx_I g w' q t := sx_I_k h (fun i hi => by
  rw [he]
  refine va_up_ne _ _ ?_
  intro z
  exact sx_sm h i hi (by rw [z]; exact ha))
theorem sx_I_v {g : hw_G} {w w' : hw_H} {q : Nat → Nat} {t : sx_T} {a : Nat} {e0 : va_E} {e : Option va_E} (h : sx_I g w q t) (ha : w a = some e0) (hn : sx_kb (hw_kd e0) = true) (he : w' = va_up w a e) : sx_I g w' q t := by rw [he]; exact sx_I_u e h ha hn
theorem hw_ua {w w' : hw_H} {a y : Nat} {e1 : va_E} {e : Option va_E} (hy : w y = some e1) (ha : w a = none) (he : w' = va_up w a e) : w' y = some e1 := by rw [he]; exact hw_un hy ha e
theorem hw_uv {w w' : hw_H} {a y : Nat} {e0 e1 : va_E} {e : Option va_E} (hy : w y = some e1) (ha : w a = some e0) (h : Nat.beq (hw_kd e1) (hw_kd e0) = false) (he : w' = va_up w a e) : w' y = some e1 := by rw [he]; exact hw_kw e ha hy h
theorem hw_us {w w' : hw_H} {a : Nat} {e : Option va_E} (he : w' = va_up w a e) : w' a = e := by rw [he]; exact va_up_self _ _ _
def sx_0 : sx_T := (fun _ => 0, 0, 0, false, false, false, false, 0, fun _ => 0, fun _ => 0, 0, fun _ => 0, 0, fun _ => 0, 0)
theorem sx_ok_0 : sx_ok sx_0 := ⟨by decide, by decide, by decide, by decide, by decide, fun i _ => (by decide : cx_P 0 ≤ 10), fun i _ => Or.inr ⟨0, by decide, rfl⟩⟩
set_option maxHeartbeats 4000000 in
set_option maxRecDepth 100000 in
theorem ct_Se_initG (l : Launch) (g : hw_G) (w : hw_H) {S : Nat} (hS : w S = some (.inr (2, [.null, .int 0, .int 0, .int 0, .int 0, .int 0, .int 0, .int 0, .null, .null, .int 0, .null, .int 0, .null, .int 0]))) : hw_Mv l g ym_Se_init mw_Se_init (hw_R 1 5 2114) [.ref S] w (fun w' => ∃ q : Nat → Nat, q 0 = S ∧ sx_I g w' q sx_0 ∧ ∀ a, w a ≠ none → a ≠ S → w' a = w a) := by
  refine hw_enterv (r := 0) rfl rfl (by simp [Value.category]) (Nat.le_of_ble_eq_true rfl) ?_
  intro p e s m args below meth c A X hr hlk hnm
  refine sg_Se_init_0 X hnm ⟨Nat.le_of_ble_eq_true rfl, Nat.le_of_ble_eq_true rfl⟩ (fun _ _ _ _ _ _ h => h) (hw_rtv X hr hlk) ?_
  unfold vc_Se_init_0
  have nd0 : [S].Nodup ∧ ∀ x, x ∈ [S] → w x ≠ none := ⟨by simp, fun x hx => by rw [List.mem_singleton.mp hx, hS]; exact Option.some_ne_none _⟩
  have K0 : ∀ a, w a ≠ none → a ≠ S → w a = w a := fun _ _ _ => rfl
  refine ⟨⟨Nat.le_of_ble_eq_true rfl, Nat.le_of_ble_eq_true rfl⟩, fun q1 u1 hq1 e1 => ?_⟩
  have f1 := fr_k K0 hS hq1
  have sa1 := hw_ua hS hq1 e1
  have ba1 : u1 q1 = some (ar_i g 2072 (fun _ => 0)) := hw_us e1
  have na1 := nd_a nd0 hq1 e1
  obtain ⟨v1, hv1⟩ : ∃ v : hw_H, v = va_up u1 S (some (.inr (2, [.ref q1, .int 0, .int 0, .int 0, .int 0, .int 0, .int 0, .int 0, .null, .null, .int 0, .null, .int 0, .null, .int 0]))) := ⟨_, rfl⟩
  refine ⟨v1, ⟨_, sa1, Nat.le_of_ble_eq_true rfl, hv1⟩, ?_⟩
  have sb1 : v1 S = some (.inr (2, [.ref q1, .int 0, .int 0, .int 0, .int 0, .int 0, .int 0, .int 0, .null, .null, .int 0, .null, .int 0, .null, .int 0])) := hw_us hv1
  have ba1 := hw_uv ba1 sa1 rfl hv1
  have nd1 := nd_u na1 hv1
  have K1 := fr_u K0 hq1 e1 hv1
  refine ⟨⟨Nat.le_of_ble_eq_true rfl, Nat.le_of_ble_eq_true rfl⟩, fun q2 u2 hq2 e2 => ?_⟩
  have f2 := fr_k K1 sb1 hq2
  have sa2 := hw_ua sb1 hq2 e2
  have ba2 : u2 q2 = some (ar_i g 10 (fun _ => 0)) := hw_us e2
  have ba1 := hw_ua ba1 hq2 e2
  have na2 := nd_a nd1 hq2 e2
  obtain ⟨v2, hv2⟩ : ∃ v : hw_H, v = va_up u2 S (some (.inr (2, [.ref q1, .int 0, .int 0, .int 0, .int 0, .int 0, .int 0, .int 0, .ref q2, .null, .int 0, .null, .int 0, .null, .int 0]))) := ⟨_, rfl⟩
  refine ⟨v2, ⟨_, sa2, Nat.le_of_ble_eq_true rfl, hv2⟩, ?_⟩
  have sb2 : v2 S = some (.inr (2, [.ref q1, .int 0, .int 0, .int 0, .int 0, .int 0, .int 0, .int 0, .ref q2, .null, .int 0, .null, .int 0, .null, .int 0])) := hw_us hv2
  have ba1 := hw_uv ba1 sa2 rfl hv2
  have ba2 := hw_uv ba2 sa2 rfl hv2
  have nd2 := nd_u na2 hv2
  have K2 := fr_u K1 hq2 e2 hv2
  refine ⟨⟨Nat.le_of_ble_eq_true rfl, Nat.le_of_ble_eq_true rfl⟩, fun q3 u3 hq3 e3 => ?_⟩
  have f3 := fr_k K2 sb2 hq3
  have sa3 := hw_ua sb2 hq3 e3
  have ba3 : u3 q3 = some (ar_i g 10 (fun _ => 0)) := hw_us e3
  have ba1 := hw_ua ba1 hq3 e3
  have ba2 := hw_ua ba2 hq3 e3
  have na3 := nd_a nd2 hq3 e3
  obtain ⟨v3, hv3⟩ : ∃ v : hw_H, v = va_up u3 S (some (.inr (2, [.ref q1, .int 0, .int 0, .int 0, .int 0, .int 0, .int 0, .int 0, .ref q2, .ref q3, .int 0, .null, .int 0, .null, .int 0]))) := ⟨_, rfl⟩
  refine ⟨v3, ⟨_, sa3, Nat.le_of_ble_eq_true rfl, hv3⟩, ?_⟩
  have sb3 : v3 S = some (.inr (2, [.ref q1, .int 0, .int 0, .int 0, .int 0, .int 0, .int 0, .int 0, .ref q2, .ref q3, .int 0, .null, .int 0, .null, .int 0])) := hw_us hv3
  have ba1 := hw_uv ba1 sa3 rfl hv3
  have ba2 := hw_uv ba2 sa3 rfl hv3
  have ba3 := hw_uv ba3 sa3 rfl hv3
  have nd3 := nd_u na3 hv3
  have K3 := fr_u K2 hq3 e3 hv3
  refine ⟨⟨Nat.le_of_ble_eq_true rfl, Nat.le_of_ble_eq_true rfl⟩, fun q4 u4 hq4 e4 => ?_⟩
  have f4 := fr_k K3 sb3 hq4
  have sa4 := hw_ua sb3 hq4 e4
  have ba4 : u4 q4 = some (ar_i g 11 (fun _ => 0)) := hw_us e4
  have ba1 := hw_ua ba1 hq4 e4
  have ba2 := hw_ua ba2 hq4 e4
  have ba3 := hw_ua ba3 hq4 e4
  have na4 := nd_a nd3 hq4 e4
  obtain ⟨v4, hv4⟩ : ∃ v : hw_H, v = va_up u4 S (some (.inr (2, [.ref q1, .int 0, .int 0, .int 0, .int 0, .int 0, .int 0, .int 0, .ref q2, .ref q3, .int 0, .ref q4, .int 0, .null, .int 0]))) := ⟨_, rfl⟩
  refine ⟨v4, ⟨_, sa4, Nat.le_of_ble_eq_true rfl, hv4⟩, ?_⟩
  have sb4 : v4 S = some (.inr (2, [.ref q1, .int 0, .int 0, .int 0, .int 0, .int 0, .int 0, .int 0, .ref q2, .ref q3, .int 0, .ref q4, .int 0, .null, .int 0])) := hw_us hv4
  have ba1 := hw_uv ba1 sa4 rfl hv4
  have ba2 := hw_uv ba2 sa4 rfl hv4
  have ba3 := hw_uv ba3 sa4 rfl hv4
  have ba4 := hw_uv ba4 sa4 rfl hv4
  have nd4 := nd_u na4 hv4
  have K4 := fr_u K3 hq4 e4 hv4
  refine ⟨⟨Nat.le_of_ble_eq_true rfl, Nat.le_of_ble_eq_true rfl⟩, fun q5 u5 hq5 e5 => ?_⟩
  have f5 := fr_k K4 sb4 hq5
  have sa5 := hw_ua sb4 hq5 e5
  have ba5 : u5 q5 = some (ar_i g 11 (fun _ => 0)) := hw_us e5
  have ba1 := hw_ua ba1 hq5 e5
  have ba2 := hw_ua ba2 hq5 e5
  have ba3 := hw_ua ba3 hq5 e5
  have ba4 := hw_ua ba4 hq5 e5
  have na5 := nd_a nd4 hq5 e5
  obtain ⟨v5, hv5⟩ : ∃ v : hw_H, v = va_up u5 S (some (.inr (2, [.ref q1, .int 0, .int 0, .int 0, .int 0, .int 0, .int 0, .int 0, .ref q2, .ref q3, .int 0, .ref q4, .int 0, .ref q5, .int 0]))) := ⟨_, rfl⟩
  refine ⟨v5, ⟨_, sa5, Nat.le_of_ble_eq_true rfl, hv5⟩, ?_⟩
  have sb5 : v5 S = some (.inr (2, [.ref q1, .int 0, .int 0, .int 0, .int 0, .int 0, .int 0, .int 0, .ref q2, .ref q3, .int 0, .ref q4, .int 0, .ref q5, .int 0])) := hw_us hv5
  have ba1 := hw_uv ba1 sa5 rfl hv5
  have ba2 := hw_uv ba2 sa5 rfl hv5
  have ba3 := hw_uv ba3 sa5 rfl hv5
  have ba4 := hw_uv ba4 sa5 rfl hv5
  have ba5 := hw_uv ba5 sa5 rfl hv5
  have nd5 := nd_u na5 hv5
  have K5 := fr_u K4 hq5 e5 hv5
  exact ⟨⟨Nat.le_of_ble_eq_true rfl, Nat.le_of_ble_eq_true rfl⟩, fun i => ([S] ++ [q1] ++ [q2] ++ [q3] ++ [q4] ++ [q5]).getD i 0, rfl, ⟨nd_g nd5.1 rfl, sb5, ba1, ba2, ba3, ba4, ba5⟩, K5⟩
theorem nd_r {a q1 q2 q3 q4 q5 q6 q7 q8 q9 : Nat} (h : ([a] ++ [q1] ++ [q2] ++ [q3] ++ [q4] ++ [q5] ++ [q6] ++ [q7] ++ [q8] ++ [q9]).Nodup) : mo_D (fun i => [q1, q2, q3, q4, q5, q6, q7, q8, q9, a].getD i 0) := by
  refine nd_g (ls := [q1, q2, q3, q4, q5, q6, q7, q8, q9, a]) ?_ rfl
  have e : [q1, q2, q3, q4, q5, q6, q7, q8, q9, a].Perm ([a] ++ [q1] ++ [q2] ++ [q3] ++ [q4] ++ [q5] ++ [q6] ++ [q7] ++ [q8] ++ [q9]) := by
    have e2 : ([q1, q2, q3, q4, q5, q6, q7, q8, q9] ++ [a]).Perm ([a] ++ [q1, q2, q3, q4, q5, q6, q7, q8, q9]) := List.perm_append_comm
    exact e2
  exact e.nodup_iff.mpr h
set_option maxHeartbeats 4000000 in
set_option maxRecDepth 100000 in
theorem ct_Mo_initG (l : Launch) (g : hw_G) (w : hw_H) {S : Nat} (hS : w S = some (.inr (8, [.null, .int 0, .int 0, .null, .null, .int 0, .int 0, .int 0, .int 0, .null, .null, .null, .int 0, .int 0, .int 0, .int 0, .int 0, .null, .null, .null, .int 0]))) : hw_Mv l g ym_Mo_init mw_Mo_init (hw_R 1 9 1057) [.ref S] w (fun w' => ∃ r : Nat → Nat, r 9 = S ∧ (∀ i, i < 9 → w (r i) = none) ∧ mo_I g w' r 0 0 0 0 0 0 0 0 0 0 0 0 (fun _ => 0) (fun _ => 0) (fun _ => 0) (fun _ => 0) (fun _ => 0) (fun _ => 0) (fun _ => 0) (fun _ => 0) (fun _ => 0) ∧ ∀ a, w a ≠ none → a ≠ S → w' a = w a) := by
  refine hw_enterv (r := 0) rfl rfl (by simp [Value.category]) (Nat.le_of_ble_eq_true rfl) ?_
  intro p e s m args below meth c A X hr hlk hnm
  refine sg_Mo_init_0 X hnm ⟨Nat.le_of_ble_eq_true rfl, Nat.le_of_ble_eq_true rfl⟩ (fun _ _ _ _ _ _ h => h) (hw_rtv X hr hlk) ?_
  unfold vc_Mo_init_0
  have nd0 : [S].Nodup ∧ ∀ x, x ∈ [S] → w x ≠ none := ⟨by simp, fun x hx => by rw [List.mem_singleton.mp hx, hS]; exact Option.some_ne_none _⟩
  have K0 : ∀ a, w a ≠ none → a ≠ S → w a = w a := fun _ _ _ => rfl
  refine ⟨⟨Nat.le_of_ble_eq_true rfl, Nat.le_of_ble_eq_true rfl⟩, fun q1 u1 hq1 e1 => ?_⟩
  have f1 := fr_k K0 hS hq1
  have sa1 := hw_ua hS hq1 e1
  have ba1 : u1 q1 = some (ar_i g 160 (fun _ => 0)) := hw_us e1
  have na1 := nd_a nd0 hq1 e1
  obtain ⟨v1, hv1⟩ : ∃ v : hw_H, v = va_up u1 S (some (.inr (8, [.ref q1, .int 0, .int 0, .null, .null, .int 0, .int 0, .int 0, .int 0, .null, .null, .null, .int 0, .int 0, .int 0, .int 0, .int 0, .null, .null, .null, .int 0]))) := ⟨_, rfl⟩
  refine ⟨v1, ⟨_, sa1, Nat.le_of_ble_eq_true rfl, hv1⟩, ?_⟩
  have sb1 : v1 S = some (.inr (8, [.ref q1, .int 0, .int 0, .null, .null, .int 0, .int 0, .int 0, .int 0, .null, .null, .null, .int 0, .int 0, .int 0, .int 0, .int 0, .null, .null, .null, .int 0])) := hw_us hv1
  have ba1 := hw_uv ba1 sa1 rfl hv1
  have nd1 := nd_u na1 hv1
  have K1 := fr_u K0 hq1 e1 hv1
  refine ⟨⟨Nat.le_of_ble_eq_true rfl, Nat.le_of_ble_eq_true rfl⟩, fun q2 u2 hq2 e2 => ?_⟩
  have f2 := fr_k K1 sb1 hq2
  have sa2 := hw_ua sb1 hq2 e2
  have ba2 : u2 q2 = some (ar_i g 90 (fun _ => 0)) := hw_us e2
  have ba1 := hw_ua ba1 hq2 e2
  have na2 := nd_a nd1 hq2 e2
  obtain ⟨v2, hv2⟩ : ∃ v : hw_H, v = va_up u2 S (some (.inr (8, [.ref q1, .int 0, .int 0, .ref q2, .null, .int 0, .int 0, .int 0, .int 0, .null, .null, .null, .int 0, .int 0, .int 0, .int 0, .int 0, .null, .null, .null, .int 0]))) := ⟨_, rfl⟩
  refine ⟨v2, ⟨_, sa2, Nat.le_of_ble_eq_true rfl, hv2⟩, ?_⟩
  have sb2 : v2 S = some (.inr (8, [.ref q1, .int 0, .int 0, .ref q2, .null, .int 0, .int 0, .int 0, .int 0, .null, .null, .null, .int 0, .int 0, .int 0, .int 0, .int 0, .null, .null, .null, .int 0])) := hw_us hv2
  have ba1 := hw_uv ba1 sa2 rfl hv2
  have ba2 := hw_uv ba2 sa2 rfl hv2
  have nd2 := nd_u na2 hv2
  have K2 := fr_u K1 hq2 e2 hv2
  refine ⟨⟨Nat.le_of_ble_eq_true rfl, Nat.le_of_ble_eq_true rfl⟩, fun q3 u3 hq3 e3 => ?_⟩
  have f3 := fr_k K2 sb2 hq3
  have sa3 := hw_ua sb2 hq3 e3
  have ba3 : u3 q3 = some (ar_i g 90 (fun _ => 0)) := hw_us e3
  have ba1 := hw_ua ba1 hq3 e3
  have ba2 := hw_ua ba2 hq3 e3
  have na3 := nd_a nd2 hq3 e3
  obtain ⟨v3, hv3⟩ : ∃ v : hw_H, v = va_up u3 S (some (.inr (8, [.ref q1, .int 0, .int 0, .ref q2, .ref q3, .int 0, .int 0, .int 0, .int 0, .null, .null, .null, .int 0, .int 0, .int 0, .int 0, .int 0, .null, .null, .null, .int 0]))) := ⟨_, rfl⟩
  refine ⟨v3, ⟨_, sa3, Nat.le_of_ble_eq_true rfl, hv3⟩, ?_⟩
  have sb3 : v3 S = some (.inr (8, [.ref q1, .int 0, .int 0, .ref q2, .ref q3, .int 0, .int 0, .int 0, .int 0, .null, .null, .null, .int 0, .int 0, .int 0, .int 0, .int 0, .null, .null, .null, .int 0])) := hw_us hv3
  have ba1 := hw_uv ba1 sa3 rfl hv3
  have ba2 := hw_uv ba2 sa3 rfl hv3
  have ba3 := hw_uv ba3 sa3 rfl hv3
  have nd3 := nd_u na3 hv3
  have K3 := fr_u K2 hq3 e3 hv3
  refine ⟨⟨Nat.le_of_ble_eq_true rfl, Nat.le_of_ble_eq_true rfl⟩, fun q4 u4 hq4 e4 => ?_⟩
  have f4 := fr_k K3 sb3 hq4
  have sa4 := hw_ua sb3 hq4 e4
  have ba4 : u4 q4 = some (ar_i g 89 (fun _ => 0)) := hw_us e4
  have ba1 := hw_ua ba1 hq4 e4
  have ba2 := hw_ua ba2 hq4 e4
  have ba3 := hw_ua ba3 hq4 e4
  have na4 := nd_a nd3 hq4 e4
  obtain ⟨v4, hv4⟩ : ∃ v : hw_H, v = va_up u4 S (some (.inr (8, [.ref q1, .int 0, .int 0, .ref q2, .ref q3, .int 0, .int 0, .int 0, .int 0, .ref q4, .null, .null, .int 0, .int 0, .int 0, .int 0, .int 0, .null, .null, .null, .int 0]))) := ⟨_, rfl⟩
  refine ⟨v4, ⟨_, sa4, Nat.le_of_ble_eq_true rfl, hv4⟩, ?_⟩
  have sb4 : v4 S = some (.inr (8, [.ref q1, .int 0, .int 0, .ref q2, .ref q3, .int 0, .int 0, .int 0, .int 0, .ref q4, .null, .null, .int 0, .int 0, .int 0, .int 0, .int 0, .null, .null, .null, .int 0])) := hw_us hv4
  have ba1 := hw_uv ba1 sa4 rfl hv4
  have ba2 := hw_uv ba2 sa4 rfl hv4
  have ba3 := hw_uv ba3 sa4 rfl hv4
  have ba4 := hw_uv ba4 sa4 rfl hv4
  have nd4 := nd_u na4 hv4
  have K4 := fr_u K3 hq4 e4 hv4
  refine ⟨⟨Nat.le_of_ble_eq_true rfl, Nat.le_of_ble_eq_true rfl⟩, fun q5 u5 hq5 e5 => ?_⟩
  have f5 := fr_k K4 sb4 hq5
  have sa5 := hw_ua sb4 hq5 e5
  have ba5 : u5 q5 = some (ar_i g 534 (fun _ => 0)) := hw_us e5
  have ba1 := hw_ua ba1 hq5 e5
  have ba2 := hw_ua ba2 hq5 e5
  have ba3 := hw_ua ba3 hq5 e5
  have ba4 := hw_ua ba4 hq5 e5
  have na5 := nd_a nd4 hq5 e5
  obtain ⟨v5, hv5⟩ : ∃ v : hw_H, v = va_up u5 S (some (.inr (8, [.ref q1, .int 0, .int 0, .ref q2, .ref q3, .int 0, .int 0, .int 0, .int 0, .ref q4, .ref q5, .null, .int 0, .int 0, .int 0, .int 0, .int 0, .null, .null, .null, .int 0]))) := ⟨_, rfl⟩
  refine ⟨v5, ⟨_, sa5, Nat.le_of_ble_eq_true rfl, hv5⟩, ?_⟩
  have sb5 : v5 S = some (.inr (8, [.ref q1, .int 0, .int 0, .ref q2, .ref q3, .int 0, .int 0, .int 0, .int 0, .ref q4, .ref q5, .null, .int 0, .int 0, .int 0, .int 0, .int 0, .null, .null, .null, .int 0])) := hw_us hv5
  have ba1 := hw_uv ba1 sa5 rfl hv5
  have ba2 := hw_uv ba2 sa5 rfl hv5
  have ba3 := hw_uv ba3 sa5 rfl hv5
  have ba4 := hw_uv ba4 sa5 rfl hv5
  have ba5 := hw_uv ba5 sa5 rfl hv5
  have nd5 := nd_u na5 hv5
  have K5 := fr_u K4 hq5 e5 hv5
  refine ⟨⟨Nat.le_of_ble_eq_true rfl, Nat.le_of_ble_eq_true rfl⟩, fun q6 u6 hq6 e6 => ?_⟩
  have f6 := fr_k K5 sb5 hq6
  have sa6 := hw_ua sb5 hq6 e6
  have ba6 : u6 q6 = some (ar_i g 40 (fun _ => 0)) := hw_us e6
  have ba1 := hw_ua ba1 hq6 e6
  have ba2 := hw_ua ba2 hq6 e6
  have ba3 := hw_ua ba3 hq6 e6
  have ba4 := hw_ua ba4 hq6 e6
  have ba5 := hw_ua ba5 hq6 e6
  have na6 := nd_a nd5 hq6 e6
  obtain ⟨v6, hv6⟩ : ∃ v : hw_H, v = va_up u6 S (some (.inr (8, [.ref q1, .int 0, .int 0, .ref q2, .ref q3, .int 0, .int 0, .int 0, .int 0, .ref q4, .ref q5, .ref q6, .int 0, .int 0, .int 0, .int 0, .int 0, .null, .null, .null, .int 0]))) := ⟨_, rfl⟩
  refine ⟨v6, ⟨_, sa6, Nat.le_of_ble_eq_true rfl, hv6⟩, ?_⟩
  have sb6 : v6 S = some (.inr (8, [.ref q1, .int 0, .int 0, .ref q2, .ref q3, .int 0, .int 0, .int 0, .int 0, .ref q4, .ref q5, .ref q6, .int 0, .int 0, .int 0, .int 0, .int 0, .null, .null, .null, .int 0])) := hw_us hv6
  have ba1 := hw_uv ba1 sa6 rfl hv6
  have ba2 := hw_uv ba2 sa6 rfl hv6
  have ba3 := hw_uv ba3 sa6 rfl hv6
  have ba4 := hw_uv ba4 sa6 rfl hv6
  have ba5 := hw_uv ba5 sa6 rfl hv6
  have ba6 := hw_uv ba6 sa6 rfl hv6
  have nd6 := nd_u na6 hv6
  have K6 := fr_u K5 hq6 e6 hv6
  refine ⟨⟨Nat.le_of_ble_eq_true rfl, Nat.le_of_ble_eq_true rfl⟩, fun q7 u7 hq7 e7 => ?_⟩
  have f7 := fr_k K6 sb6 hq7
  have sa7 := hw_ua sb6 hq7 e7
  have ba7 : u7 q7 = some (ar_i g 12 (fun _ => 0)) := hw_us e7
  have ba1 := hw_ua ba1 hq7 e7
  have ba2 := hw_ua ba2 hq7 e7
  have ba3 := hw_ua ba3 hq7 e7
  have ba4 := hw_ua ba4 hq7 e7
  have ba5 := hw_ua ba5 hq7 e7
  have ba6 := hw_ua ba6 hq7 e7
  have na7 := nd_a nd6 hq7 e7
  obtain ⟨v7, hv7⟩ : ∃ v : hw_H, v = va_up u7 S (some (.inr (8, [.ref q1, .int 0, .int 0, .ref q2, .ref q3, .int 0, .int 0, .int 0, .int 0, .ref q4, .ref q5, .ref q6, .int 0, .int 0, .int 0, .int 0, .int 0, .ref q7, .null, .null, .int 0]))) := ⟨_, rfl⟩
  refine ⟨v7, ⟨_, sa7, Nat.le_of_ble_eq_true rfl, hv7⟩, ?_⟩
  have sb7 : v7 S = some (.inr (8, [.ref q1, .int 0, .int 0, .ref q2, .ref q3, .int 0, .int 0, .int 0, .int 0, .ref q4, .ref q5, .ref q6, .int 0, .int 0, .int 0, .int 0, .int 0, .ref q7, .null, .null, .int 0])) := hw_us hv7
  have ba1 := hw_uv ba1 sa7 rfl hv7
  have ba2 := hw_uv ba2 sa7 rfl hv7
  have ba3 := hw_uv ba3 sa7 rfl hv7
  have ba4 := hw_uv ba4 sa7 rfl hv7
  have ba5 := hw_uv ba5 sa7 rfl hv7
  have ba6 := hw_uv ba6 sa7 rfl hv7
  have ba7 := hw_uv ba7 sa7 rfl hv7
  have nd7 := nd_u na7 hv7
  have K7 := fr_u K6 hq7 e7 hv7
  refine ⟨⟨Nat.le_of_ble_eq_true rfl, Nat.le_of_ble_eq_true rfl⟩, fun q8 u8 hq8 e8 => ?_⟩
  have f8 := fr_k K7 sb7 hq8
  have sa8 := hw_ua sb7 hq8 e8
  have ba8 : u8 q8 = some (ar_b g 21 (fun _ => 0)) := hw_us e8
  have ba1 := hw_ua ba1 hq8 e8
  have ba2 := hw_ua ba2 hq8 e8
  have ba3 := hw_ua ba3 hq8 e8
  have ba4 := hw_ua ba4 hq8 e8
  have ba5 := hw_ua ba5 hq8 e8
  have ba6 := hw_ua ba6 hq8 e8
  have ba7 := hw_ua ba7 hq8 e8
  have na8 := nd_a nd7 hq8 e8
  obtain ⟨v8, hv8⟩ : ∃ v : hw_H, v = va_up u8 S (some (.inr (8, [.ref q1, .int 0, .int 0, .ref q2, .ref q3, .int 0, .int 0, .int 0, .int 0, .ref q4, .ref q5, .ref q6, .int 0, .int 0, .int 0, .int 0, .int 0, .ref q7, .ref q8, .null, .int 0]))) := ⟨_, rfl⟩
  refine ⟨v8, ⟨_, sa8, Nat.le_of_ble_eq_true rfl, hv8⟩, ?_⟩
  have sb8 : v8 S = some (.inr (8, [.ref q1, .int 0, .int 0, .ref q2, .ref q3, .int 0, .int 0, .int 0, .int 0, .ref q4, .ref q5, .ref q6, .int 0, .int 0, .int 0, .int 0, .int 0, .ref q7, .ref q8, .null, .int 0])) := hw_us hv8
  have ba1 := hw_uv ba1 sa8 rfl hv8
  have ba2 := hw_uv ba2 sa8 rfl hv8
  have ba3 := hw_uv ba3 sa8 rfl hv8
  have ba4 := hw_uv ba4 sa8 rfl hv8
  have ba5 := hw_uv ba5 sa8 rfl hv8
  have ba6 := hw_uv ba6 sa8 rfl hv8
  have ba7 := hw_uv ba7 sa8 rfl hv8
  have ba8 := hw_uv ba8 sa8 rfl hv8
  have nd8 := nd_u na8 hv8
  have K8 := fr_u K7 hq8 e8 hv8
  refine ⟨⟨Nat.le_of_ble_eq_true rfl, Nat.le_of_ble_eq_true rfl⟩, fun q9 u9 hq9 e9 => ?_⟩
  have f9 := fr_k K8 sb8 hq9
  have sa9 := hw_ua sb8 hq9 e9
  have ba9 : u9 q9 = some (ar_b g 21 (fun _ => 0)) := hw_us e9
  have ba1 := hw_ua ba1 hq9 e9
  have ba2 := hw_ua ba2 hq9 e9
  have ba3 := hw_ua ba3 hq9 e9
  have ba4 := hw_ua ba4 hq9 e9
  have ba5 := hw_ua ba5 hq9 e9
  have ba6 := hw_ua ba6 hq9 e9
  have ba7 := hw_ua ba7 hq9 e9
  have ba8 := hw_ua ba8 hq9 e9
  have na9 := nd_a nd8 hq9 e9
  obtain ⟨v9, hv9⟩ : ∃ v : hw_H, v = va_up u9 S (some (.inr (8, [.ref q1, .int 0, .int 0, .ref q2, .ref q3, .int 0, .int 0, .int 0, .int 0, .ref q4, .ref q5, .ref q6, .int 0, .int 0, .int 0, .int 0, .int 0, .ref q7, .ref q8, .ref q9, .int 0]))) := ⟨_, rfl⟩
  refine ⟨v9, ⟨_, sa9, Nat.le_of_ble_eq_true rfl, hv9⟩, ?_⟩
  have sb9 : v9 S = some (.inr (8, [.ref q1, .int 0, .int 0, .ref q2, .ref q3, .int 0, .int 0, .int 0, .int 0, .ref q4, .ref q5, .ref q6, .int 0, .int 0, .int 0, .int 0, .int 0, .ref q7, .ref q8, .ref q9, .int 0])) := hw_us hv9
  have ba1 := hw_uv ba1 sa9 rfl hv9
  have ba2 := hw_uv ba2 sa9 rfl hv9
  have ba3 := hw_uv ba3 sa9 rfl hv9
  have ba4 := hw_uv ba4 sa9 rfl hv9
  have ba5 := hw_uv ba5 sa9 rfl hv9
  have ba6 := hw_uv ba6 sa9 rfl hv9
  have ba7 := hw_uv ba7 sa9 rfl hv9
  have ba8 := hw_uv ba8 sa9 rfl hv9
  have ba9 := hw_uv ba9 sa9 rfl hv9
  have nd9 := nd_u na9 hv9
  have K9 := fr_u K8 hq9 e9 hv9
  refine ⟨⟨Nat.le_of_ble_eq_true rfl, Nat.le_of_ble_eq_true rfl⟩, fun i => [q1, q2, q3, q4, q5, q6, q7, q8, q9, S].getD i 0, rfl, ?_, ⟨nd_r nd9.1, sb9, ba1, ba2, ba3, ba4, ba5, ba6, ba7, ba8, ba9⟩, K9⟩
  intro i hi
  have hc : i = 0 ∨ i = 1 ∨ i = 2 ∨ i = 3 ∨ i = 4 ∨ i = 5 ∨ i = 6 ∨ i = 7 ∨ i = 8 := by omega
  rcases hc with rfl | rfl | rfl | rfl | rfl | rfl | rfl | rfl | rfl
  · exact f1
  · exact f2
  · exact f3
  · exact f4
  · exact f5
  · exact f6
  · exact f7
  · exact f8
  · exact f9
set_option maxHeartbeats 4000000 in
set_option maxRecDepth 100000 in
theorem ct_Co_initG (l : Launch) (g : hw_G) (w : hw_H) {C : Nat} (hC : w C = some (.inr (4, [.null, .null, .null, .null]))) : hw_Mv l g ym_Co_init mw_Co_init (hw_R 3 12 2400) [.ref C] w (fun w' => ∃ (T TC P PA : Nat) (q : Nat → Nat) (F : Nat) (fc : Nat → Int32), co_I g w' C T TC P PA q 0 (fun _ => 0) F 0 [] (-1) (sx_bg fc 0 0 sx_0)) := by
  refine hw_enterv (r := 0) rfl rfl (by simp [Value.category]) (Nat.le_of_ble_eq_true rfl) ?_
  intro p e s m args below meth c A X hr hlk hnm
  refine sg_Co_init_0 X hnm ⟨Nat.le_of_ble_eq_true rfl, Nat.le_of_ble_eq_true rfl⟩ (fun _ _ _ _ _ _ h => h) (hw_rtv X hr hlk) ?_
  unfold vc_Co_init_0
  refine ⟨⟨Nat.le_of_ble_eq_true rfl, Nat.le_of_ble_eq_true rfl⟩, fun T w1 q1 e1 => ?_⟩
  have hC1 := hw_ua hC q1 e1
  have hT1 : _ = some (.inr (0, [.null, .int 0, .int 0, .int 0, .int 0, .int 0]) : va_E) := hw_us e1
  refine hw_cv_n (by decide) (by decide) (ct_Te_init l g w1 hT1) (Nat.le_of_ble_eq_true rfl) (Nat.le_of_ble_eq_true rfl) ?_
  rintro w3 ⟨TC, q2, e3⟩
  obtain ⟨w2, e2⟩ : ∃ v : hw_H, v = va_up w1 TC (some (ai_0 g 1 160)) := ⟨_, rfl⟩
  rw [← e2] at e3
  have hC2 := hw_ua hC1 q2 e2
  have hT2 := hw_ua hT1 q2 e2
  have hTC2 : _ = some (ai_0 g 1 160 : va_E) := hw_us e2
  have hC3 := hw_uv hC2 hT2 rfl e3
  have hTC3 := hw_uv hTC2 hT2 rfl e3
  have hT3 : _ = some (tx_o TC 0 0 0 0 0 : va_E) := hw_us e3
  obtain ⟨w4, e4⟩ : ∃ v : hw_H, v = va_up w3 C (some (.inr (4, [.ref T, .null, .null, .null]))) := ⟨_, rfl⟩
  refine ⟨w4, ⟨_, hC3, Nat.le_of_ble_eq_true rfl, e4⟩, ?_⟩
  have hT4 := hw_uv hT3 hC3 rfl e4
  have hTC4 := hw_uv hTC3 hC3 rfl e4
  have hC4 : _ = some (.inr (4, [.ref T, .null, .null, .null]) : va_E) := hw_us e4
  refine ⟨⟨Nat.le_of_ble_eq_true rfl, Nat.le_of_ble_eq_true rfl⟩, fun P0 w5 q5 e5 => ?_⟩
  have hC5 := hw_ua hC4 q5 e5
  have hT5 := hw_ua hT4 q5 e5
  have hTC5 := hw_ua hTC4 q5 e5
  have hP5 : _ = some (.inr (1, [.null, .int 0, .int 0, .int 0]) : va_E) := hw_us e5
  refine hw_cv_n (by decide) (by decide) (ct_Pr_init l g w5 hP5) (Nat.le_of_ble_eq_true rfl) (Nat.le_of_ble_eq_true rfl) ?_
  rintro w7 ⟨PA, q6, e7⟩
  obtain ⟨w6, e6⟩ : ∃ v : hw_H, v = va_up w5 PA (some (aq_0 g 40)) := ⟨_, rfl⟩
  rw [← e6] at e7
  have hC6 := hw_ua hC5 q6 e6
  have hT6 := hw_ua hT5 q6 e6
  have hTC6 := hw_ua hTC5 q6 e6
  have hP6 := hw_ua hP5 q6 e6
  have hPA6 : _ = some (aq_0 g 40 : va_E) := hw_us e6
  have hC7 := hw_uv hC6 hP6 rfl e7
  have hT7 := hw_uv hT6 hP6 rfl e7
  have hTC7 := hw_uv hTC6 hP6 rfl e7
  have hPA7 := hw_uv hPA6 hP6 rfl e7
  have hP7 : _ = some (.inr (1, [.ref PA, .int 0, .int 0, .int 0]) : va_E) := hw_us e7
  obtain ⟨w8, e8⟩ : ∃ v : hw_H, v = va_up w7 C (some (.inr (4, [.ref T, .ref P0, .null, .null]))) := ⟨_, rfl⟩
  refine ⟨w8, ⟨_, hC7, Nat.le_of_ble_eq_true rfl, e8⟩, ?_⟩
  have hT8 := hw_uv hT7 hC7 rfl e8
  have hTC8 := hw_uv hTC7 hC7 rfl e8
  have hP8 := hw_uv hP7 hC7 rfl e8
  have hPA8 := hw_uv hPA7 hC7 rfl e8
  have hC8 : _ = some (.inr (4, [.ref T, .ref P0, .null, .null]) : va_E) := hw_us e8
  refine ⟨⟨Nat.le_of_ble_eq_true rfl, Nat.le_of_ble_eq_true rfl⟩, fun S w9 q9 e9 => ?_⟩
  have hC9 := hw_ua hC8 q9 e9
  have hT9 := hw_ua hT8 q9 e9
  have hTC9 := hw_ua hTC8 q9 e9
  have hP9 := hw_ua hP8 q9 e9
  have hPA9 := hw_ua hPA8 q9 e9
  have hS9 : _ = some (.inr (2, [.null, .int 0, .int 0, .int 0, .int 0, .int 0, .int 0, .int 0, .null, .null, .int 0, .null, .int 0, .null, .int 0]) : va_E) := hw_us e9
  refine hw_cv_n (by decide) (by decide) (ct_Se_initG l g w9 hS9) (Nat.le_of_ble_eq_true rfl) (Nat.le_of_ble_eq_true rfl) ?_
  rintro w10 ⟨q, hq0, hs10, hk10⟩
  have hC10 := (hk10 _ (hw_sn hC9) (hw_nk hC9 hS9 rfl)).trans hC9
  have hT10 := (hk10 _ (hw_sn hT9) (hw_nk hT9 hS9 rfl)).trans hT9
  have hTC10 := (hk10 _ (hw_sn hTC9) (hw_nk hTC9 hS9 rfl)).trans hTC9
  have hP10 := (hk10 _ (hw_sn hP9) (hw_nk hP9 hS9 rfl)).trans hP9
  have hPA10 := (hk10 _ (hw_sn hPA9) (hw_nk hPA9 hS9 rfl)).trans hPA9
  subst hq0
  obtain ⟨w11, e11⟩ : ∃ v : hw_H, v = va_up w10 C (some (.inr (4, [.ref T, .ref P0, .ref (q 0), .null]))) := ⟨_, rfl⟩
  refine ⟨w11, ⟨_, hC10, Nat.le_of_ble_eq_true rfl, e11⟩, ?_⟩
  have hT11 := hw_uv hT10 hC10 rfl e11
  have hTC11 := hw_uv hTC10 hC10 rfl e11
  have hP11 := hw_uv hP10 hC10 rfl e11
  have hPA11 := hw_uv hPA10 hC10 rfl e11
  have hs11 := sx_I_v hs10 hC10 rfl e11
  have hC11 : _ = some (.inr (4, [.ref T, .ref P0, .ref (q 0), .null]) : va_E) := hw_us e11
  refine ⟨⟨Nat.le_of_ble_eq_true rfl, Nat.le_of_ble_eq_true rfl⟩, fun F w12 q12 e12 => ?_⟩
  have hC12 := hw_ua hC11 q12 e12
  have hT12 := hw_ua hT11 q12 e12
  have hTC12 := hw_ua hTC11 q12 e12
  have hP12 := hw_ua hP11 q12 e12
  have hPA12 := hw_ua hPA11 q12 e12
  have hs12 := sx_I_a hs11 q12 e12
  have hF12 : _ = some (.inr (3, [.int 0, .null, .int 0, .int 0]) : va_E) := hw_us e12
  refine hw_cv_n (by decide) (by decide) (ct_Fo_init l g w12 hF12) (Nat.le_of_ble_eq_true rfl) (Nat.le_of_ble_eq_true rfl) ?_
  rintro w14 ⟨FA, q13, e14⟩
  obtain ⟨w13, e13⟩ : ∃ v : hw_H, v = va_up w12 FA (some (aq_0 g 24)) := ⟨_, rfl⟩
  rw [← e13] at e14
  have hC13 := hw_ua hC12 q13 e13
  have hT13 := hw_ua hT12 q13 e13
  have hTC13 := hw_ua hTC12 q13 e13
  have hP13 := hw_ua hP12 q13 e13
  have hPA13 := hw_ua hPA12 q13 e13
  have hs13 := sx_I_a hs12 q13 e13
  have hF13 := hw_ua hF12 q13 e13
  have hFA13 : _ = some (aq_0 g 24 : va_E) := hw_us e13
  have hC14 := hw_uv hC13 hF13 rfl e14
  have hT14 := hw_uv hT13 hF13 rfl e14
  have hTC14 := hw_uv hTC13 hF13 rfl e14
  have hP14 := hw_uv hP13 hF13 rfl e14
  have hPA14 := hw_uv hPA13 hF13 rfl e14
  have hs14 := sx_I_v hs13 hF13 rfl e14
  have hFA14 := hw_uv hFA13 hF13 rfl e14
  have hF14 : _ = some (.inr (3, [.int 0, .ref FA, .int 0, .int (-1)]) : va_E) := hw_us e14
  refine ⟨hw_o_of hC14 rfl rfl, hw_cv_n (mc' := 0) (ms' := 0) (by decide) (by decide) (ct_Co_take (o := none) (v := 0) (cs := []) (cnt := -1) l g w14 hC14 hP14 hPA14 hs14 hF14 (Nat.zero_le _) hFA14 (fun i x hx => by simp at hx)) (Nat.le_of_ble_eq_true rfl) (Nat.le_of_ble_eq_true rfl) ?_⟩
  rintro w15 ⟨h', fc, -, c1, c2, c3, c4, c5, hk15⟩
  have hT15 := (hk15 _ (hw_sn hT14) (hw_nk hT14 hC14 rfl) (hw_nk hT14 hP14 rfl) (hw_nk hT14 hPA14 rfl) (sx_ne hs14 hT14 (sx_kb_no rfl))).trans hT14
  have hTC15 := (hk15 _ (hw_sn hTC14) (hw_nk hTC14 hC14 rfl) (hw_nk hTC14 hP14 rfl) (hw_nk hTC14 hPA14 rfl) (sx_ne hs14 hTC14 (sx_kb_no rfl))).trans hTC14
  have hF15 := (hk15 _ (hw_sn hF14) (hw_nk hF14 hC14 rfl) (hw_nk hF14 hP14 rfl) (hw_nk hF14 hPA14 rfl) (sx_ne hs14 hF14 (sx_kb_no rfl))).trans hF14
  have hFA15 := (hk15 _ (hw_sn hFA14) (hw_nk hFA14 hC14 rfl) (hw_nk hFA14 hP14 rfl) (hw_nk hFA14 hPA14 rfl) (sx_ne hs14 hFA14 (sx_kb_no rfl))).trans hFA14
  exact ⟨⟨Nat.le_of_ble_eq_true rfl, Nat.le_of_ble_eq_true rfl⟩, T, TC, P0, PA, q, F, fc, c1, ⟨Nat.zero_le _, hTC15⟩, ⟨_, _, _, _, hT15⟩, ⟨_, _, _, _, c2, Nat.zero_le _, Or.inl rfl, c3, c4⟩, ⟨c5, sx_ok_bg sx_ok_0 (Nat.zero_le _) (Nat.zero_le _)⟩, FA, _, hF15, Nat.zero_le _, Nat.zero_le _, hFA15, fun i x hx => by simp at hx⟩
