set_option maxHeartbeats 4000000 in
set_option maxRecDepth 100000 in
theorem c_X0_add_0 (l : Launch) (D : va_G) (cA : Nat → ClassId) (ct : Int → Int) (ed : Int → Int) (q0 : Int → Int) (q1 : Int → Int) (q2 : Int → Int) (q3 : Int → Int) (q4 : Int → Int) (q5 : Int → Int) (q6 : Int → Int) (q7 : Int → Int) (q8 : Int → Int) (q9 : Int → Int) (q10 : Int → Int) (q11 : Int → Int) (q12 : Int → Int) (q13 : Int → Int) (q14 : Int → Int) (q15 : Int → Int) (q16 : Int → Int) (q17 : Int → Int) (q18 : Int → Int) (q19 : Int → Int) (e : Int) (who : Int) (hct : ∀ q : Int, 0 ≤ ct q ∧ ct q ≤ 6) (hed : ∀ q : Int, inR (ed q)) (he : inR e) (hl : gLt ct ed 0 e → ct 0 < 6) :
    gC l D cA yX0_add mX0_add none 0 0 [gr 36, gi 0, gi e, gi who] (apW ct ed q0 q1 q2 q3 q4 q5 q6 q7 q8 q9 q10 q11 q12 q13 q14 q15 q16 q17 q18 q19) (fun r9 w9 => ∃ (ct2 : Int → Int) (ed2 : Int → Int) (k2 : Int), r9 = none ∧ w9 = apW ct2 ed2 (gu q0 k2 who) q1 q2 q3 q4 q5 q6 q7 q8 q9 q10 q11 q12 q13 q14 q15 q16 q17 q18 q19 ∧ (k2 = (if gb (gLt ct ed 0 e) = 1 then ct 0 else 0)) ∧ (ct2 = gu ct 0 (k2 + 1)) ∧ (ed2 = gu ed 0 e)) := by
  refine gC_of rfl kX0_add rfl rfl (Nat.le_of_ble_eq_true rfl) (fun X ad hX hE => ?_)
  refine G.go hX 3 (apW ct ed q0 q1 q2 q3 q4 q5 q6 q7 q8 q9 q10 q11 q12 q13 q14 q15 q16 q17 q18 q19, 3, [(0, gr 36), (1, gi 0), (2, gi e), (3, gi who)], [gi e, gi 0, gr 36]) rfl trivial ?_
  refine G.callV (av := [gi 0, gi e]) (o := 36) (st := []) hX rfl (fun l D cA => c_X0_isLatest l D cA ct ed q0 q1 q2 q3 q4 q5 q6 q7 q8 q9 q10 q11 q12 q13 q14 q15 q16 q17 q18 q19 0 e (by first | assumption | omega) (by first | assumption | omega) (by first | assumption | omega) (by first | assumption | omega)) (by decide +kernel) aX0_isLatest rfl rfl rfl ⟨rfl, rfl⟩ (by decide) (Nat.le_of_ble_eq_true rfl) [0, 1, 2, 3, 4, 5, 6, 7, 8, 9, 10, 11, 12, 13, 14, 15, 16, 17, 18, 19, 20, 21, 22, 23] [] [] rfl rfl rfl (fun r w' hp => ?_)
  obtain ⟨rfl, rfl⟩ := hp
  show G X mX0_add ad 0 0 (apW ct ed q0 q1 q2 q3 q4 q5 q6 q7 q8 q9 q10 q11 q12 q13 q14 q15 q16 q17 q18 q19, 6, [(0, gr 36), (1, gi 0), (2, gi e), (3, gi who)], [gi (gb (gLt ct ed 0 e))])
  refine g_if_ne hX 23 rfl rfl (gb_r _) (fun b6 => ?_) (fun b6 => ?_)
  ·
    have b6 := gb_n0 b6
    refine G.go hX 3 (apW ct ed q0 q1 q2 q3 q4 q5 q6 q7 q8 q9 q10 q11 q12 q13 q14 q15 q16 q17 q18 q19, 28, [(0, gr 36), (1, gi 0), (2, gi e), (3, gi who)], [gi 0, gr 39]) rfl trivial ?_
    refine g_aald hX 40 rfl rfl (by omega) rfl ?_
    refine G.go hX 14 (apW (gu ct 0 ((ct 0) + 1)) ed (gu q0 (ct 0) who) q1 q2 q3 q4 q5 q6 q7 q8 q9 q10 q11 q12 q13 q14 q15 q16 q17 q18 q19, 47, [(0, gr 36), (1, gi 0), (2, gi e), (3, gi who)], []) rfl ?_ ?_
    · refine ⟨?_, ?_, ?_, ?_, trivial⟩
      · omega
      · first | (have := hct 0; have := hl b6; omega) | (rw [gu_s]; omega)
      · omega
      · omega
    exact g_vret hX hE rfl ⟨_, ed, ct 0, rfl, rfl, by rw [gb_t b6, if_pos rfl], rfl, by (funext j; by_cases e9 : j = 0; (rw [e9, gu_s]; exact b6.2); rw [gu_n _ _ e9])⟩
  ·
    have b6 := gb_nn b6
    refine G.go hX 13 (apW (gu ct 0 0) (gu ed 0 e) q0 q1 q2 q3 q4 q5 q6 q7 q8 q9 q10 q11 q12 q13 q14 q15 q16 q17 q18 q19, 28, [(0, gr 36), (1, gi 0), (2, gi e), (3, gi who)], [gi 0, gr 39]) rfl ?_ ?_
    · refine ⟨?_, ?_, trivial⟩
      · omega
      · omega
    refine g_aald hX 40 rfl rfl (by omega) rfl ?_
    refine G.go hX 14 (apW (gu (gu ct 0 0) 0 (((gu ct 0 0) 0) + 1)) (gu ed 0 e) (gu q0 ((gu ct 0 0) 0) who) q1 q2 q3 q4 q5 q6 q7 q8 q9 q10 q11 q12 q13 q14 q15 q16 q17 q18 q19, 47, [(0, gr 36), (1, gi 0), (2, gi e), (3, gi who)], []) rfl ?_ ?_
    · refine ⟨?_, ?_, ?_, ?_, trivial⟩
      · omega
      · first | (have := hct 0; have := hl b6; omega) | (rw [gu_s]; omega)
      · omega
      · omega
    exact g_vret hX hE rfl ⟨_, _, 0, rfl, by rw [gu_s], by rw [gb_f b6, if_neg (by omega)], by (funext j; by_cases e9 : j = 0; (rw [e9, gu_s, gu_s]); rw [gu_n _ _ e9, gu_n _ _ e9, gu_n _ _ e9]), rfl⟩
set_option maxHeartbeats 4000000 in
set_option maxRecDepth 100000 in
theorem c_X0_add_1 (l : Launch) (D : va_G) (cA : Nat → ClassId) (ct : Int → Int) (ed : Int → Int) (q0 : Int → Int) (q1 : Int → Int) (q2 : Int → Int) (q3 : Int → Int) (q4 : Int → Int) (q5 : Int → Int) (q6 : Int → Int) (q7 : Int → Int) (q8 : Int → Int) (q9 : Int → Int) (q10 : Int → Int) (q11 : Int → Int) (q12 : Int → Int) (q13 : Int → Int) (q14 : Int → Int) (q15 : Int → Int) (q16 : Int → Int) (q17 : Int → Int) (q18 : Int → Int) (q19 : Int → Int) (e : Int) (who : Int) (hct : ∀ q : Int, 0 ≤ ct q ∧ ct q ≤ 6) (hed : ∀ q : Int, inR (ed q)) (he : inR e) (hl : gLt ct ed 1 e → ct 1 < 6) :
    gC l D cA yX0_add mX0_add none 0 0 [gr 36, gi 1, gi e, gi who] (apW ct ed q0 q1 q2 q3 q4 q5 q6 q7 q8 q9 q10 q11 q12 q13 q14 q15 q16 q17 q18 q19) (fun r9 w9 => ∃ (ct2 : Int → Int) (ed2 : Int → Int) (k2 : Int), r9 = none ∧ w9 = apW ct2 ed2 q0 (gu q1 k2 who) q2 q3 q4 q5 q6 q7 q8 q9 q10 q11 q12 q13 q14 q15 q16 q17 q18 q19 ∧ (k2 = (if gb (gLt ct ed 1 e) = 1 then ct 1 else 0)) ∧ (ct2 = gu ct 1 (k2 + 1)) ∧ (ed2 = gu ed 1 e)) := by
  refine gC_of rfl kX0_add rfl rfl (Nat.le_of_ble_eq_true rfl) (fun X ad hX hE => ?_)
  refine G.go hX 3 (apW ct ed q0 q1 q2 q3 q4 q5 q6 q7 q8 q9 q10 q11 q12 q13 q14 q15 q16 q17 q18 q19, 3, [(0, gr 36), (1, gi 1), (2, gi e), (3, gi who)], [gi e, gi 1, gr 36]) rfl trivial ?_
  refine G.callV (av := [gi 1, gi e]) (o := 36) (st := []) hX rfl (fun l D cA => c_X0_isLatest l D cA ct ed q0 q1 q2 q3 q4 q5 q6 q7 q8 q9 q10 q11 q12 q13 q14 q15 q16 q17 q18 q19 1 e (by first | assumption | omega) (by first | assumption | omega) (by first | assumption | omega) (by first | assumption | omega)) (by decide +kernel) aX0_isLatest rfl rfl rfl ⟨rfl, rfl⟩ (by decide) (Nat.le_of_ble_eq_true rfl) [0, 1, 2, 3, 4, 5, 6, 7, 8, 9, 10, 11, 12, 13, 14, 15, 16, 17, 18, 19, 20, 21, 22, 23] [] [] rfl rfl rfl (fun r w' hp => ?_)
  obtain ⟨rfl, rfl⟩ := hp
  show G X mX0_add ad 0 0 (apW ct ed q0 q1 q2 q3 q4 q5 q6 q7 q8 q9 q10 q11 q12 q13 q14 q15 q16 q17 q18 q19, 6, [(0, gr 36), (1, gi 1), (2, gi e), (3, gi who)], [gi (gb (gLt ct ed 1 e))])
  refine g_if_ne hX 23 rfl rfl (gb_r _) (fun b6 => ?_) (fun b6 => ?_)
  ·
    have b6 := gb_n0 b6
    refine G.go hX 3 (apW ct ed q0 q1 q2 q3 q4 q5 q6 q7 q8 q9 q10 q11 q12 q13 q14 q15 q16 q17 q18 q19, 28, [(0, gr 36), (1, gi 1), (2, gi e), (3, gi who)], [gi 1, gr 39]) rfl trivial ?_
    refine g_aald hX 41 rfl rfl (by omega) rfl ?_
    refine G.go hX 14 (apW (gu ct 1 ((ct 1) + 1)) ed q0 (gu q1 (ct 1) who) q2 q3 q4 q5 q6 q7 q8 q9 q10 q11 q12 q13 q14 q15 q16 q17 q18 q19, 47, [(0, gr 36), (1, gi 1), (2, gi e), (3, gi who)], []) rfl ?_ ?_
    · refine ⟨?_, ?_, ?_, ?_, trivial⟩
      · omega
      · first | (have := hct 1; have := hl b6; omega) | (rw [gu_s]; omega)
      · omega
      · omega
    exact g_vret hX hE rfl ⟨_, ed, ct 1, rfl, rfl, by rw [gb_t b6, if_pos rfl], rfl, by (funext j; by_cases e9 : j = 1; (rw [e9, gu_s]; exact b6.2); rw [gu_n _ _ e9])⟩
  ·
    have b6 := gb_nn b6
    refine G.go hX 13 (apW (gu ct 1 0) (gu ed 1 e) q0 q1 q2 q3 q4 q5 q6 q7 q8 q9 q10 q11 q12 q13 q14 q15 q16 q17 q18 q19, 28, [(0, gr 36), (1, gi 1), (2, gi e), (3, gi who)], [gi 1, gr 39]) rfl ?_ ?_
    · refine ⟨?_, ?_, trivial⟩
      · omega
      · omega
    refine g_aald hX 41 rfl rfl (by omega) rfl ?_
    refine G.go hX 14 (apW (gu (gu ct 1 0) 1 (((gu ct 1 0) 1) + 1)) (gu ed 1 e) q0 (gu q1 ((gu ct 1 0) 1) who) q2 q3 q4 q5 q6 q7 q8 q9 q10 q11 q12 q13 q14 q15 q16 q17 q18 q19, 47, [(0, gr 36), (1, gi 1), (2, gi e), (3, gi who)], []) rfl ?_ ?_
    · refine ⟨?_, ?_, ?_, ?_, trivial⟩
      · omega
      · first | (have := hct 1; have := hl b6; omega) | (rw [gu_s]; omega)
      · omega
      · omega
    exact g_vret hX hE rfl ⟨_, _, 0, rfl, by rw [gu_s], by rw [gb_f b6, if_neg (by omega)], by (funext j; by_cases e9 : j = 1; (rw [e9, gu_s, gu_s]); rw [gu_n _ _ e9, gu_n _ _ e9, gu_n _ _ e9]), rfl⟩
set_option maxHeartbeats 4000000 in
set_option maxRecDepth 100000 in
theorem c_X0_add_2 (l : Launch) (D : va_G) (cA : Nat → ClassId) (ct : Int → Int) (ed : Int → Int) (q0 : Int → Int) (q1 : Int → Int) (q2 : Int → Int) (q3 : Int → Int) (q4 : Int → Int) (q5 : Int → Int) (q6 : Int → Int) (q7 : Int → Int) (q8 : Int → Int) (q9 : Int → Int) (q10 : Int → Int) (q11 : Int → Int) (q12 : Int → Int) (q13 : Int → Int) (q14 : Int → Int) (q15 : Int → Int) (q16 : Int → Int) (q17 : Int → Int) (q18 : Int → Int) (q19 : Int → Int) (e : Int) (who : Int) (hct : ∀ q : Int, 0 ≤ ct q ∧ ct q ≤ 6) (hed : ∀ q : Int, inR (ed q)) (he : inR e) (hl : gLt ct ed 2 e → ct 2 < 6) :
    gC l D cA yX0_add mX0_add none 0 0 [gr 36, gi 2, gi e, gi who] (apW ct ed q0 q1 q2 q3 q4 q5 q6 q7 q8 q9 q10 q11 q12 q13 q14 q15 q16 q17 q18 q19) (fun r9 w9 => ∃ (ct2 : Int → Int) (ed2 : Int → Int) (k2 : Int), r9 = none ∧ w9 = apW ct2 ed2 q0 q1 (gu q2 k2 who) q3 q4 q5 q6 q7 q8 q9 q10 q11 q12 q13 q14 q15 q16 q17 q18 q19 ∧ (k2 = (if gb (gLt ct ed 2 e) = 1 then ct 2 else 0)) ∧ (ct2 = gu ct 2 (k2 + 1)) ∧ (ed2 = gu ed 2 e)) := by
  refine gC_of rfl kX0_add rfl rfl (Nat.le_of_ble_eq_true rfl) (fun X ad hX hE => ?_)
  refine G.go hX 3 (apW ct ed q0 q1 q2 q3 q4 q5 q6 q7 q8 q9 q10 q11 q12 q13 q14 q15 q16 q17 q18 q19, 3, [(0, gr 36), (1, gi 2), (2, gi e), (3, gi who)], [gi e, gi 2, gr 36]) rfl trivial ?_
  refine G.callV (av := [gi 2, gi e]) (o := 36) (st := []) hX rfl (fun l D cA => c_X0_isLatest l D cA ct ed q0 q1 q2 q3 q4 q5 q6 q7 q8 q9 q10 q11 q12 q13 q14 q15 q16 q17 q18 q19 2 e (by first | assumption | omega) (by first | assumption | omega) (by first | assumption | omega) (by first | assumption | omega)) (by decide +kernel) aX0_isLatest rfl rfl rfl ⟨rfl, rfl⟩ (by decide) (Nat.le_of_ble_eq_true rfl) [0, 1, 2, 3, 4, 5, 6, 7, 8, 9, 10, 11, 12, 13, 14, 15, 16, 17, 18, 19, 20, 21, 22, 23] [] [] rfl rfl rfl (fun r w' hp => ?_)
  obtain ⟨rfl, rfl⟩ := hp
  show G X mX0_add ad 0 0 (apW ct ed q0 q1 q2 q3 q4 q5 q6 q7 q8 q9 q10 q11 q12 q13 q14 q15 q16 q17 q18 q19, 6, [(0, gr 36), (1, gi 2), (2, gi e), (3, gi who)], [gi (gb (gLt ct ed 2 e))])
  refine g_if_ne hX 23 rfl rfl (gb_r _) (fun b6 => ?_) (fun b6 => ?_)
  ·
    have b6 := gb_n0 b6
    refine G.go hX 3 (apW ct ed q0 q1 q2 q3 q4 q5 q6 q7 q8 q9 q10 q11 q12 q13 q14 q15 q16 q17 q18 q19, 28, [(0, gr 36), (1, gi 2), (2, gi e), (3, gi who)], [gi 2, gr 39]) rfl trivial ?_
    refine g_aald hX 42 rfl rfl (by omega) rfl ?_
    refine G.go hX 14 (apW (gu ct 2 ((ct 2) + 1)) ed q0 q1 (gu q2 (ct 2) who) q3 q4 q5 q6 q7 q8 q9 q10 q11 q12 q13 q14 q15 q16 q17 q18 q19, 47, [(0, gr 36), (1, gi 2), (2, gi e), (3, gi who)], []) rfl ?_ ?_
    · refine ⟨?_, ?_, ?_, ?_, trivial⟩
      · omega
      · first | (have := hct 2; have := hl b6; omega) | (rw [gu_s]; omega)
      · omega
      · omega
    exact g_vret hX hE rfl ⟨_, ed, ct 2, rfl, rfl, by rw [gb_t b6, if_pos rfl], rfl, by (funext j; by_cases e9 : j = 2; (rw [e9, gu_s]; exact b6.2); rw [gu_n _ _ e9])⟩
  ·
    have b6 := gb_nn b6
    refine G.go hX 13 (apW (gu ct 2 0) (gu ed 2 e) q0 q1 q2 q3 q4 q5 q6 q7 q8 q9 q10 q11 q12 q13 q14 q15 q16 q17 q18 q19, 28, [(0, gr 36), (1, gi 2), (2, gi e), (3, gi who)], [gi 2, gr 39]) rfl ?_ ?_
    · refine ⟨?_, ?_, trivial⟩
      · omega
      · omega
    refine g_aald hX 42 rfl rfl (by omega) rfl ?_
    refine G.go hX 14 (apW (gu (gu ct 2 0) 2 (((gu ct 2 0) 2) + 1)) (gu ed 2 e) q0 q1 (gu q2 ((gu ct 2 0) 2) who) q3 q4 q5 q6 q7 q8 q9 q10 q11 q12 q13 q14 q15 q16 q17 q18 q19, 47, [(0, gr 36), (1, gi 2), (2, gi e), (3, gi who)], []) rfl ?_ ?_
    · refine ⟨?_, ?_, ?_, ?_, trivial⟩
      · omega
      · first | (have := hct 2; have := hl b6; omega) | (rw [gu_s]; omega)
      · omega
      · omega
    exact g_vret hX hE rfl ⟨_, _, 0, rfl, by rw [gu_s], by rw [gb_f b6, if_neg (by omega)], by (funext j; by_cases e9 : j = 2; (rw [e9, gu_s, gu_s]); rw [gu_n _ _ e9, gu_n _ _ e9, gu_n _ _ e9]), rfl⟩
set_option maxHeartbeats 4000000 in
set_option maxRecDepth 100000 in
theorem c_X0_add_3 (l : Launch) (D : va_G) (cA : Nat → ClassId) (ct : Int → Int) (ed : Int → Int) (q0 : Int → Int) (q1 : Int → Int) (q2 : Int → Int) (q3 : Int → Int) (q4 : Int → Int) (q5 : Int → Int) (q6 : Int → Int) (q7 : Int → Int) (q8 : Int → Int) (q9 : Int → Int) (q10 : Int → Int) (q11 : Int → Int) (q12 : Int → Int) (q13 : Int → Int) (q14 : Int → Int) (q15 : Int → Int) (q16 : Int → Int) (q17 : Int → Int) (q18 : Int → Int) (q19 : Int → Int) (e : Int) (who : Int) (hct : ∀ q : Int, 0 ≤ ct q ∧ ct q ≤ 6) (hed : ∀ q : Int, inR (ed q)) (he : inR e) (hl : gLt ct ed 3 e → ct 3 < 6) :
    gC l D cA yX0_add mX0_add none 0 0 [gr 36, gi 3, gi e, gi who] (apW ct ed q0 q1 q2 q3 q4 q5 q6 q7 q8 q9 q10 q11 q12 q13 q14 q15 q16 q17 q18 q19) (fun r9 w9 => ∃ (ct2 : Int → Int) (ed2 : Int → Int) (k2 : Int), r9 = none ∧ w9 = apW ct2 ed2 q0 q1 q2 (gu q3 k2 who) q4 q5 q6 q7 q8 q9 q10 q11 q12 q13 q14 q15 q16 q17 q18 q19 ∧ (k2 = (if gb (gLt ct ed 3 e) = 1 then ct 3 else 0)) ∧ (ct2 = gu ct 3 (k2 + 1)) ∧ (ed2 = gu ed 3 e)) := by
  refine gC_of rfl kX0_add rfl rfl (Nat.le_of_ble_eq_true rfl) (fun X ad hX hE => ?_)
  refine G.go hX 3 (apW ct ed q0 q1 q2 q3 q4 q5 q6 q7 q8 q9 q10 q11 q12 q13 q14 q15 q16 q17 q18 q19, 3, [(0, gr 36), (1, gi 3), (2, gi e), (3, gi who)], [gi e, gi 3, gr 36]) rfl trivial ?_
  refine G.callV (av := [gi 3, gi e]) (o := 36) (st := []) hX rfl (fun l D cA => c_X0_isLatest l D cA ct ed q0 q1 q2 q3 q4 q5 q6 q7 q8 q9 q10 q11 q12 q13 q14 q15 q16 q17 q18 q19 3 e (by first | assumption | omega) (by first | assumption | omega) (by first | assumption | omega) (by first | assumption | omega)) (by decide +kernel) aX0_isLatest rfl rfl rfl ⟨rfl, rfl⟩ (by decide) (Nat.le_of_ble_eq_true rfl) [0, 1, 2, 3, 4, 5, 6, 7, 8, 9, 10, 11, 12, 13, 14, 15, 16, 17, 18, 19, 20, 21, 22, 23] [] [] rfl rfl rfl (fun r w' hp => ?_)
  obtain ⟨rfl, rfl⟩ := hp
  show G X mX0_add ad 0 0 (apW ct ed q0 q1 q2 q3 q4 q5 q6 q7 q8 q9 q10 q11 q12 q13 q14 q15 q16 q17 q18 q19, 6, [(0, gr 36), (1, gi 3), (2, gi e), (3, gi who)], [gi (gb (gLt ct ed 3 e))])
  refine g_if_ne hX 23 rfl rfl (gb_r _) (fun b6 => ?_) (fun b6 => ?_)
  ·
    have b6 := gb_n0 b6
    refine G.go hX 3 (apW ct ed q0 q1 q2 q3 q4 q5 q6 q7 q8 q9 q10 q11 q12 q13 q14 q15 q16 q17 q18 q19, 28, [(0, gr 36), (1, gi 3), (2, gi e), (3, gi who)], [gi 3, gr 39]) rfl trivial ?_
    refine g_aald hX 43 rfl rfl (by omega) rfl ?_
    refine G.go hX 14 (apW (gu ct 3 ((ct 3) + 1)) ed q0 q1 q2 (gu q3 (ct 3) who) q4 q5 q6 q7 q8 q9 q10 q11 q12 q13 q14 q15 q16 q17 q18 q19, 47, [(0, gr 36), (1, gi 3), (2, gi e), (3, gi who)], []) rfl ?_ ?_
    · refine ⟨?_, ?_, ?_, ?_, trivial⟩
      · omega
      · first | (have := hct 3; have := hl b6; omega) | (rw [gu_s]; omega)
      · omega
      · omega
    exact g_vret hX hE rfl ⟨_, ed, ct 3, rfl, rfl, by rw [gb_t b6, if_pos rfl], rfl, by (funext j; by_cases e9 : j = 3; (rw [e9, gu_s]; exact b6.2); rw [gu_n _ _ e9])⟩
  ·
    have b6 := gb_nn b6
    refine G.go hX 13 (apW (gu ct 3 0) (gu ed 3 e) q0 q1 q2 q3 q4 q5 q6 q7 q8 q9 q10 q11 q12 q13 q14 q15 q16 q17 q18 q19, 28, [(0, gr 36), (1, gi 3), (2, gi e), (3, gi who)], [gi 3, gr 39]) rfl ?_ ?_
    · refine ⟨?_, ?_, trivial⟩
      · omega
      · omega
    refine g_aald hX 43 rfl rfl (by omega) rfl ?_
    refine G.go hX 14 (apW (gu (gu ct 3 0) 3 (((gu ct 3 0) 3) + 1)) (gu ed 3 e) q0 q1 q2 (gu q3 ((gu ct 3 0) 3) who) q4 q5 q6 q7 q8 q9 q10 q11 q12 q13 q14 q15 q16 q17 q18 q19, 47, [(0, gr 36), (1, gi 3), (2, gi e), (3, gi who)], []) rfl ?_ ?_
    · refine ⟨?_, ?_, ?_, ?_, trivial⟩
      · omega
      · first | (have := hct 3; have := hl b6; omega) | (rw [gu_s]; omega)
      · omega
      · omega
    exact g_vret hX hE rfl ⟨_, _, 0, rfl, by rw [gu_s], by rw [gb_f b6, if_neg (by omega)], by (funext j; by_cases e9 : j = 3; (rw [e9, gu_s, gu_s]); rw [gu_n _ _ e9, gu_n _ _ e9, gu_n _ _ e9]), rfl⟩
set_option maxHeartbeats 4000000 in
set_option maxRecDepth 100000 in
theorem c_X0_add_4 (l : Launch) (D : va_G) (cA : Nat → ClassId) (ct : Int → Int) (ed : Int → Int) (q0 : Int → Int) (q1 : Int → Int) (q2 : Int → Int) (q3 : Int → Int) (q4 : Int → Int) (q5 : Int → Int) (q6 : Int → Int) (q7 : Int → Int) (q8 : Int → Int) (q9 : Int → Int) (q10 : Int → Int) (q11 : Int → Int) (q12 : Int → Int) (q13 : Int → Int) (q14 : Int → Int) (q15 : Int → Int) (q16 : Int → Int) (q17 : Int → Int) (q18 : Int → Int) (q19 : Int → Int) (e : Int) (who : Int) (hct : ∀ q : Int, 0 ≤ ct q ∧ ct q ≤ 6) (hed : ∀ q : Int, inR (ed q)) (he : inR e) (hl : gLt ct ed 4 e → ct 4 < 6) :
    gC l D cA yX0_add mX0_add none 0 0 [gr 36, gi 4, gi e, gi who] (apW ct ed q0 q1 q2 q3 q4 q5 q6 q7 q8 q9 q10 q11 q12 q13 q14 q15 q16 q17 q18 q19) (fun r9 w9 => ∃ (ct2 : Int → Int) (ed2 : Int → Int) (k2 : Int), r9 = none ∧ w9 = apW ct2 ed2 q0 q1 q2 q3 (gu q4 k2 who) q5 q6 q7 q8 q9 q10 q11 q12 q13 q14 q15 q16 q17 q18 q19 ∧ (k2 = (if gb (gLt ct ed 4 e) = 1 then ct 4 else 0)) ∧ (ct2 = gu ct 4 (k2 + 1)) ∧ (ed2 = gu ed 4 e)) := by
  refine gC_of rfl kX0_add rfl rfl (Nat.le_of_ble_eq_true rfl) (fun X ad hX hE => ?_)
  refine G.go hX 3 (apW ct ed q0 q1 q2 q3 q4 q5 q6 q7 q8 q9 q10 q11 q12 q13 q14 q15 q16 q17 q18 q19, 3, [(0, gr 36), (1, gi 4), (2, gi e), (3, gi who)], [gi e, gi 4, gr 36]) rfl trivial ?_
  refine G.callV (av := [gi 4, gi e]) (o := 36) (st := []) hX rfl (fun l D cA => c_X0_isLatest l D cA ct ed q0 q1 q2 q3 q4 q5 q6 q7 q8 q9 q10 q11 q12 q13 q14 q15 q16 q17 q18 q19 4 e (by first | assumption | omega) (by first | assumption | omega) (by first | assumption | omega) (by first | assumption | omega)) (by decide +kernel) aX0_isLatest rfl rfl rfl ⟨rfl, rfl⟩ (by decide) (Nat.le_of_ble_eq_true rfl) [0, 1, 2, 3, 4, 5, 6, 7, 8, 9, 10, 11, 12, 13, 14, 15, 16, 17, 18, 19, 20, 21, 22, 23] [] [] rfl rfl rfl (fun r w' hp => ?_)
  obtain ⟨rfl, rfl⟩ := hp
  show G X mX0_add ad 0 0 (apW ct ed q0 q1 q2 q3 q4 q5 q6 q7 q8 q9 q10 q11 q12 q13 q14 q15 q16 q17 q18 q19, 6, [(0, gr 36), (1, gi 4), (2, gi e), (3, gi who)], [gi (gb (gLt ct ed 4 e))])
  refine g_if_ne hX 23 rfl rfl (gb_r _) (fun b6 => ?_) (fun b6 => ?_)
  ·
    have b6 := gb_n0 b6
    refine G.go hX 3 (apW ct ed q0 q1 q2 q3 q4 q5 q6 q7 q8 q9 q10 q11 q12 q13 q14 q15 q16 q17 q18 q19, 28, [(0, gr 36), (1, gi 4), (2, gi e), (3, gi who)], [gi 4, gr 39]) rfl trivial ?_
    refine g_aald hX 44 rfl rfl (by omega) rfl ?_
    refine G.go hX 14 (apW (gu ct 4 ((ct 4) + 1)) ed q0 q1 q2 q3 (gu q4 (ct 4) who) q5 q6 q7 q8 q9 q10 q11 q12 q13 q14 q15 q16 q17 q18 q19, 47, [(0, gr 36), (1, gi 4), (2, gi e), (3, gi who)], []) rfl ?_ ?_
    · refine ⟨?_, ?_, ?_, ?_, trivial⟩
      · omega
      · first | (have := hct 4; have := hl b6; omega) | (rw [gu_s]; omega)
      · omega
      · omega
    exact g_vret hX hE rfl ⟨_, ed, ct 4, rfl, rfl, by rw [gb_t b6, if_pos rfl], rfl, by (funext j; by_cases e9 : j = 4; (rw [e9, gu_s]; exact b6.2); rw [gu_n _ _ e9])⟩
  ·
    have b6 := gb_nn b6
    refine G.go hX 13 (apW (gu ct 4 0) (gu ed 4 e) q0 q1 q2 q3 q4 q5 q6 q7 q8 q9 q10 q11 q12 q13 q14 q15 q16 q17 q18 q19, 28, [(0, gr 36), (1, gi 4), (2, gi e), (3, gi who)], [gi 4, gr 39]) rfl ?_ ?_
    · refine ⟨?_, ?_, trivial⟩
      · omega
      · omega
    refine g_aald hX 44 rfl rfl (by omega) rfl ?_
    refine G.go hX 14 (apW (gu (gu ct 4 0) 4 (((gu ct 4 0) 4) + 1)) (gu ed 4 e) q0 q1 q2 q3 (gu q4 ((gu ct 4 0) 4) who) q5 q6 q7 q8 q9 q10 q11 q12 q13 q14 q15 q16 q17 q18 q19, 47, [(0, gr 36), (1, gi 4), (2, gi e), (3, gi who)], []) rfl ?_ ?_
    · refine ⟨?_, ?_, ?_, ?_, trivial⟩
      · omega
      · first | (have := hct 4; have := hl b6; omega) | (rw [gu_s]; omega)
      · omega
      · omega
    exact g_vret hX hE rfl ⟨_, _, 0, rfl, by rw [gu_s], by rw [gb_f b6, if_neg (by omega)], by (funext j; by_cases e9 : j = 4; (rw [e9, gu_s, gu_s]); rw [gu_n _ _ e9, gu_n _ _ e9, gu_n _ _ e9]), rfl⟩
set_option maxHeartbeats 4000000 in
set_option maxRecDepth 100000 in
theorem c_X0_add_5 (l : Launch) (D : va_G) (cA : Nat → ClassId) (ct : Int → Int) (ed : Int → Int) (q0 : Int → Int) (q1 : Int → Int) (q2 : Int → Int) (q3 : Int → Int) (q4 : Int → Int) (q5 : Int → Int) (q6 : Int → Int) (q7 : Int → Int) (q8 : Int → Int) (q9 : Int → Int) (q10 : Int → Int) (q11 : Int → Int) (q12 : Int → Int) (q13 : Int → Int) (q14 : Int → Int) (q15 : Int → Int) (q16 : Int → Int) (q17 : Int → Int) (q18 : Int → Int) (q19 : Int → Int) (e : Int) (who : Int) (hct : ∀ q : Int, 0 ≤ ct q ∧ ct q ≤ 6) (hed : ∀ q : Int, inR (ed q)) (he : inR e) (hl : gLt ct ed 5 e → ct 5 < 6) :
    gC l D cA yX0_add mX0_add none 0 0 [gr 36, gi 5, gi e, gi who] (apW ct ed q0 q1 q2 q3 q4 q5 q6 q7 q8 q9 q10 q11 q12 q13 q14 q15 q16 q17 q18 q19) (fun r9 w9 => ∃ (ct2 : Int → Int) (ed2 : Int → Int) (k2 : Int), r9 = none ∧ w9 = apW ct2 ed2 q0 q1 q2 q3 q4 (gu q5 k2 who) q6 q7 q8 q9 q10 q11 q12 q13 q14 q15 q16 q17 q18 q19 ∧ (k2 = (if gb (gLt ct ed 5 e) = 1 then ct 5 else 0)) ∧ (ct2 = gu ct 5 (k2 + 1)) ∧ (ed2 = gu ed 5 e)) := by
  refine gC_of rfl kX0_add rfl rfl (Nat.le_of_ble_eq_true rfl) (fun X ad hX hE => ?_)
  refine G.go hX 3 (apW ct ed q0 q1 q2 q3 q4 q5 q6 q7 q8 q9 q10 q11 q12 q13 q14 q15 q16 q17 q18 q19, 3, [(0, gr 36), (1, gi 5), (2, gi e), (3, gi who)], [gi e, gi 5, gr 36]) rfl trivial ?_
  refine G.callV (av := [gi 5, gi e]) (o := 36) (st := []) hX rfl (fun l D cA => c_X0_isLatest l D cA ct ed q0 q1 q2 q3 q4 q5 q6 q7 q8 q9 q10 q11 q12 q13 q14 q15 q16 q17 q18 q19 5 e (by first | assumption | omega) (by first | assumption | omega) (by first | assumption | omega) (by first | assumption | omega)) (by decide +kernel) aX0_isLatest rfl rfl rfl ⟨rfl, rfl⟩ (by decide) (Nat.le_of_ble_eq_true rfl) [0, 1, 2, 3, 4, 5, 6, 7, 8, 9, 10, 11, 12, 13, 14, 15, 16, 17, 18, 19, 20, 21, 22, 23] [] [] rfl rfl rfl (fun r w' hp => ?_)
  obtain ⟨rfl, rfl⟩ := hp
  show G X mX0_add ad 0 0 (apW ct ed q0 q1 q2 q3 q4 q5 q6 q7 q8 q9 q10 q11 q12 q13 q14 q15 q16 q17 q18 q19, 6, [(0, gr 36), (1, gi 5), (2, gi e), (3, gi who)], [gi (gb (gLt ct ed 5 e))])
  refine g_if_ne hX 23 rfl rfl (gb_r _) (fun b6 => ?_) (fun b6 => ?_)
  ·
    have b6 := gb_n0 b6
    refine G.go hX 3 (apW ct ed q0 q1 q2 q3 q4 q5 q6 q7 q8 q9 q10 q11 q12 q13 q14 q15 q16 q17 q18 q19, 28, [(0, gr 36), (1, gi 5), (2, gi e), (3, gi who)], [gi 5, gr 39]) rfl trivial ?_
    refine g_aald hX 45 rfl rfl (by omega) rfl ?_
    refine G.go hX 14 (apW (gu ct 5 ((ct 5) + 1)) ed q0 q1 q2 q3 q4 (gu q5 (ct 5) who) q6 q7 q8 q9 q10 q11 q12 q13 q14 q15 q16 q17 q18 q19, 47, [(0, gr 36), (1, gi 5), (2, gi e), (3, gi who)], []) rfl ?_ ?_
    · refine ⟨?_, ?_, ?_, ?_, trivial⟩
      · omega
      · first | (have := hct 5; have := hl b6; omega) | (rw [gu_s]; omega)
      · omega
      · omega
    exact g_vret hX hE rfl ⟨_, ed, ct 5, rfl, rfl, by rw [gb_t b6, if_pos rfl], rfl, by (funext j; by_cases e9 : j = 5; (rw [e9, gu_s]; exact b6.2); rw [gu_n _ _ e9])⟩
  ·
    have b6 := gb_nn b6
    refine G.go hX 13 (apW (gu ct 5 0) (gu ed 5 e) q0 q1 q2 q3 q4 q5 q6 q7 q8 q9 q10 q11 q12 q13 q14 q15 q16 q17 q18 q19, 28, [(0, gr 36), (1, gi 5), (2, gi e), (3, gi who)], [gi 5, gr 39]) rfl ?_ ?_
    · refine ⟨?_, ?_, trivial⟩
      · omega
      · omega
    refine g_aald hX 45 rfl rfl (by omega) rfl ?_
    refine G.go hX 14 (apW (gu (gu ct 5 0) 5 (((gu ct 5 0) 5) + 1)) (gu ed 5 e) q0 q1 q2 q3 q4 (gu q5 ((gu ct 5 0) 5) who) q6 q7 q8 q9 q10 q11 q12 q13 q14 q15 q16 q17 q18 q19, 47, [(0, gr 36), (1, gi 5), (2, gi e), (3, gi who)], []) rfl ?_ ?_
    · refine ⟨?_, ?_, ?_, ?_, trivial⟩
      · omega
      · first | (have := hct 5; have := hl b6; omega) | (rw [gu_s]; omega)
      · omega
      · omega
    exact g_vret hX hE rfl ⟨_, _, 0, rfl, by rw [gu_s], by rw [gb_f b6, if_neg (by omega)], by (funext j; by_cases e9 : j = 5; (rw [e9, gu_s, gu_s]); rw [gu_n _ _ e9, gu_n _ _ e9, gu_n _ _ e9]), rfl⟩
set_option maxHeartbeats 4000000 in
set_option maxRecDepth 100000 in
theorem c_X0_add_6 (l : Launch) (D : va_G) (cA : Nat → ClassId) (ct : Int → Int) (ed : Int → Int) (q0 : Int → Int) (q1 : Int → Int) (q2 : Int → Int) (q3 : Int → Int) (q4 : Int → Int) (q5 : Int → Int) (q6 : Int → Int) (q7 : Int → Int) (q8 : Int → Int) (q9 : Int → Int) (q10 : Int → Int) (q11 : Int → Int) (q12 : Int → Int) (q13 : Int → Int) (q14 : Int → Int) (q15 : Int → Int) (q16 : Int → Int) (q17 : Int → Int) (q18 : Int → Int) (q19 : Int → Int) (e : Int) (who : Int) (hct : ∀ q : Int, 0 ≤ ct q ∧ ct q ≤ 6) (hed : ∀ q : Int, inR (ed q)) (he : inR e) (hl : gLt ct ed 6 e → ct 6 < 6) :
    gC l D cA yX0_add mX0_add none 0 0 [gr 36, gi 6, gi e, gi who] (apW ct ed q0 q1 q2 q3 q4 q5 q6 q7 q8 q9 q10 q11 q12 q13 q14 q15 q16 q17 q18 q19) (fun r9 w9 => ∃ (ct2 : Int → Int) (ed2 : Int → Int) (k2 : Int), r9 = none ∧ w9 = apW ct2 ed2 q0 q1 q2 q3 q4 q5 (gu q6 k2 who) q7 q8 q9 q10 q11 q12 q13 q14 q15 q16 q17 q18 q19 ∧ (k2 = (if gb (gLt ct ed 6 e) = 1 then ct 6 else 0)) ∧ (ct2 = gu ct 6 (k2 + 1)) ∧ (ed2 = gu ed 6 e)) := by
  refine gC_of rfl kX0_add rfl rfl (Nat.le_of_ble_eq_true rfl) (fun X ad hX hE => ?_)
  refine G.go hX 3 (apW ct ed q0 q1 q2 q3 q4 q5 q6 q7 q8 q9 q10 q11 q12 q13 q14 q15 q16 q17 q18 q19, 3, [(0, gr 36), (1, gi 6), (2, gi e), (3, gi who)], [gi e, gi 6, gr 36]) rfl trivial ?_
  refine G.callV (av := [gi 6, gi e]) (o := 36) (st := []) hX rfl (fun l D cA => c_X0_isLatest l D cA ct ed q0 q1 q2 q3 q4 q5 q6 q7 q8 q9 q10 q11 q12 q13 q14 q15 q16 q17 q18 q19 6 e (by first | assumption | omega) (by first | assumption | omega) (by first | assumption | omega) (by first | assumption | omega)) (by decide +kernel) aX0_isLatest rfl rfl rfl ⟨rfl, rfl⟩ (by decide) (Nat.le_of_ble_eq_true rfl) [0, 1, 2, 3, 4, 5, 6, 7, 8, 9, 10, 11, 12, 13, 14, 15, 16, 17, 18, 19, 20, 21, 22, 23] [] [] rfl rfl rfl (fun r w' hp => ?_)
  obtain ⟨rfl, rfl⟩ := hp
  show G X mX0_add ad 0 0 (apW ct ed q0 q1 q2 q3 q4 q5 q6 q7 q8 q9 q10 q11 q12 q13 q14 q15 q16 q17 q18 q19, 6, [(0, gr 36), (1, gi 6), (2, gi e), (3, gi who)], [gi (gb (gLt ct ed 6 e))])
  refine g_if_ne hX 23 rfl rfl (gb_r _) (fun b6 => ?_) (fun b6 => ?_)
  ·
    have b6 := gb_n0 b6
    refine G.go hX 3 (apW ct ed q0 q1 q2 q3 q4 q5 q6 q7 q8 q9 q10 q11 q12 q13 q14 q15 q16 q17 q18 q19, 28, [(0, gr 36), (1, gi 6), (2, gi e), (3, gi who)], [gi 6, gr 39]) rfl trivial ?_
    refine g_aald hX 46 rfl rfl (by omega) rfl ?_
    refine G.go hX 14 (apW (gu ct 6 ((ct 6) + 1)) ed q0 q1 q2 q3 q4 q5 (gu q6 (ct 6) who) q7 q8 q9 q10 q11 q12 q13 q14 q15 q16 q17 q18 q19, 47, [(0, gr 36), (1, gi 6), (2, gi e), (3, gi who)], []) rfl ?_ ?_
    · refine ⟨?_, ?_, ?_, ?_, trivial⟩
      · omega
      · first | (have := hct 6; have := hl b6; omega) | (rw [gu_s]; omega)
      · omega
      · omega
    exact g_vret hX hE rfl ⟨_, ed, ct 6, rfl, rfl, by rw [gb_t b6, if_pos rfl], rfl, by (funext j; by_cases e9 : j = 6; (rw [e9, gu_s]; exact b6.2); rw [gu_n _ _ e9])⟩
  ·
    have b6 := gb_nn b6
    refine G.go hX 13 (apW (gu ct 6 0) (gu ed 6 e) q0 q1 q2 q3 q4 q5 q6 q7 q8 q9 q10 q11 q12 q13 q14 q15 q16 q17 q18 q19, 28, [(0, gr 36), (1, gi 6), (2, gi e), (3, gi who)], [gi 6, gr 39]) rfl ?_ ?_
    · refine ⟨?_, ?_, trivial⟩
      · omega
      · omega
    refine g_aald hX 46 rfl rfl (by omega) rfl ?_
    refine G.go hX 14 (apW (gu (gu ct 6 0) 6 (((gu ct 6 0) 6) + 1)) (gu ed 6 e) q0 q1 q2 q3 q4 q5 (gu q6 ((gu ct 6 0) 6) who) q7 q8 q9 q10 q11 q12 q13 q14 q15 q16 q17 q18 q19, 47, [(0, gr 36), (1, gi 6), (2, gi e), (3, gi who)], []) rfl ?_ ?_
    · refine ⟨?_, ?_, ?_, ?_, trivial⟩
      · omega
      · first | (have := hct 6; have := hl b6; omega) | (rw [gu_s]; omega)
      · omega
      · omega
    exact g_vret hX hE rfl ⟨_, _, 0, rfl, by rw [gu_s], by rw [gb_f b6, if_neg (by omega)], by (funext j; by_cases e9 : j = 6; (rw [e9, gu_s, gu_s]); rw [gu_n _ _ e9, gu_n _ _ e9, gu_n _ _ e9]), rfl⟩
set_option maxHeartbeats 4000000 in
set_option maxRecDepth 100000 in
theorem c_X0_add_7 (l : Launch) (D : va_G) (cA : Nat → ClassId) (ct : Int → Int) (ed : Int → Int) (q0 : Int → Int) (q1 : Int → Int) (q2 : Int → Int) (q3 : Int → Int) (q4 : Int → Int) (q5 : Int → Int) (q6 : Int → Int) (q7 : Int → Int) (q8 : Int → Int) (q9 : Int → Int) (q10 : Int → Int) (q11 : Int → Int) (q12 : Int → Int) (q13 : Int → Int) (q14 : Int → Int) (q15 : Int → Int) (q16 : Int → Int) (q17 : Int → Int) (q18 : Int → Int) (q19 : Int → Int) (e : Int) (who : Int) (hct : ∀ q : Int, 0 ≤ ct q ∧ ct q ≤ 6) (hed : ∀ q : Int, inR (ed q)) (he : inR e) (hl : gLt ct ed 7 e → ct 7 < 6) :
    gC l D cA yX0_add mX0_add none 0 0 [gr 36, gi 7, gi e, gi who] (apW ct ed q0 q1 q2 q3 q4 q5 q6 q7 q8 q9 q10 q11 q12 q13 q14 q15 q16 q17 q18 q19) (fun r9 w9 => ∃ (ct2 : Int → Int) (ed2 : Int → Int) (k2 : Int), r9 = none ∧ w9 = apW ct2 ed2 q0 q1 q2 q3 q4 q5 q6 (gu q7 k2 who) q8 q9 q10 q11 q12 q13 q14 q15 q16 q17 q18 q19 ∧ (k2 = (if gb (gLt ct ed 7 e) = 1 then ct 7 else 0)) ∧ (ct2 = gu ct 7 (k2 + 1)) ∧ (ed2 = gu ed 7 e)) := by
  refine gC_of rfl kX0_add rfl rfl (Nat.le_of_ble_eq_true rfl) (fun X ad hX hE => ?_)
  refine G.go hX 3 (apW ct ed q0 q1 q2 q3 q4 q5 q6 q7 q8 q9 q10 q11 q12 q13 q14 q15 q16 q17 q18 q19, 3, [(0, gr 36), (1, gi 7), (2, gi e), (3, gi who)], [gi e, gi 7, gr 36]) rfl trivial ?_
  refine G.callV (av := [gi 7, gi e]) (o := 36) (st := []) hX rfl (fun l D cA => c_X0_isLatest l D cA ct ed q0 q1 q2 q3 q4 q5 q6 q7 q8 q9 q10 q11 q12 q13 q14 q15 q16 q17 q18 q19 7 e (by first | assumption | omega) (by first | assumption | omega) (by first | assumption | omega) (by first | assumption | omega)) (by decide +kernel) aX0_isLatest rfl rfl rfl ⟨rfl, rfl⟩ (by decide) (Nat.le_of_ble_eq_true rfl) [0, 1, 2, 3, 4, 5, 6, 7, 8, 9, 10, 11, 12, 13, 14, 15, 16, 17, 18, 19, 20, 21, 22, 23] [] [] rfl rfl rfl (fun r w' hp => ?_)
  obtain ⟨rfl, rfl⟩ := hp
  show G X mX0_add ad 0 0 (apW ct ed q0 q1 q2 q3 q4 q5 q6 q7 q8 q9 q10 q11 q12 q13 q14 q15 q16 q17 q18 q19, 6, [(0, gr 36), (1, gi 7), (2, gi e), (3, gi who)], [gi (gb (gLt ct ed 7 e))])
  refine g_if_ne hX 23 rfl rfl (gb_r _) (fun b6 => ?_) (fun b6 => ?_)
  ·
    have b6 := gb_n0 b6
    refine G.go hX 3 (apW ct ed q0 q1 q2 q3 q4 q5 q6 q7 q8 q9 q10 q11 q12 q13 q14 q15 q16 q17 q18 q19, 28, [(0, gr 36), (1, gi 7), (2, gi e), (3, gi who)], [gi 7, gr 39]) rfl trivial ?_
    refine g_aald hX 47 rfl rfl (by omega) rfl ?_
    refine G.go hX 14 (apW (gu ct 7 ((ct 7) + 1)) ed q0 q1 q2 q3 q4 q5 q6 (gu q7 (ct 7) who) q8 q9 q10 q11 q12 q13 q14 q15 q16 q17 q18 q19, 47, [(0, gr 36), (1, gi 7), (2, gi e), (3, gi who)], []) rfl ?_ ?_
    · refine ⟨?_, ?_, ?_, ?_, trivial⟩
      · omega
      · first | (have := hct 7; have := hl b6; omega) | (rw [gu_s]; omega)
      · omega
      · omega
    exact g_vret hX hE rfl ⟨_, ed, ct 7, rfl, rfl, by rw [gb_t b6, if_pos rfl], rfl, by (funext j; by_cases e9 : j = 7; (rw [e9, gu_s]; exact b6.2); rw [gu_n _ _ e9])⟩
  ·
    have b6 := gb_nn b6
    refine G.go hX 13 (apW (gu ct 7 0) (gu ed 7 e) q0 q1 q2 q3 q4 q5 q6 q7 q8 q9 q10 q11 q12 q13 q14 q15 q16 q17 q18 q19, 28, [(0, gr 36), (1, gi 7), (2, gi e), (3, gi who)], [gi 7, gr 39]) rfl ?_ ?_
    · refine ⟨?_, ?_, trivial⟩
      · omega
      · omega
    refine g_aald hX 47 rfl rfl (by omega) rfl ?_
    refine G.go hX 14 (apW (gu (gu ct 7 0) 7 (((gu ct 7 0) 7) + 1)) (gu ed 7 e) q0 q1 q2 q3 q4 q5 q6 (gu q7 ((gu ct 7 0) 7) who) q8 q9 q10 q11 q12 q13 q14 q15 q16 q17 q18 q19, 47, [(0, gr 36), (1, gi 7), (2, gi e), (3, gi who)], []) rfl ?_ ?_
    · refine ⟨?_, ?_, ?_, ?_, trivial⟩
      · omega
      · first | (have := hct 7; have := hl b6; omega) | (rw [gu_s]; omega)
      · omega
      · omega
    exact g_vret hX hE rfl ⟨_, _, 0, rfl, by rw [gu_s], by rw [gb_f b6, if_neg (by omega)], by (funext j; by_cases e9 : j = 7; (rw [e9, gu_s, gu_s]); rw [gu_n _ _ e9, gu_n _ _ e9, gu_n _ _ e9]), rfl⟩
set_option maxHeartbeats 4000000 in
set_option maxRecDepth 100000 in
theorem c_X0_add_8 (l : Launch) (D : va_G) (cA : Nat → ClassId) (ct : Int → Int) (ed : Int → Int) (q0 : Int → Int) (q1 : Int → Int) (q2 : Int → Int) (q3 : Int → Int) (q4 : Int → Int) (q5 : Int → Int) (q6 : Int → Int) (q7 : Int → Int) (q8 : Int → Int) (q9 : Int → Int) (q10 : Int → Int) (q11 : Int → Int) (q12 : Int → Int) (q13 : Int → Int) (q14 : Int → Int) (q15 : Int → Int) (q16 : Int → Int) (q17 : Int → Int) (q18 : Int → Int) (q19 : Int → Int) (e : Int) (who : Int) (hct : ∀ q : Int, 0 ≤ ct q ∧ ct q ≤ 6) (hed : ∀ q : Int, inR (ed q)) (he : inR e) (hl : gLt ct ed 8 e → ct 8 < 6) :
    gC l D cA yX0_add mX0_add none 0 0 [gr 36, gi 8, gi e, gi who] (apW ct ed q0 q1 q2 q3 q4 q5 q6 q7 q8 q9 q10 q11 q12 q13 q14 q15 q16 q17 q18 q19) (fun r9 w9 => ∃ (ct2 : Int → Int) (ed2 : Int → Int) (k2 : Int), r9 = none ∧ w9 = apW ct2 ed2 q0 q1 q2 q3 q4 q5 q6 q7 (gu q8 k2 who) q9 q10 q11 q12 q13 q14 q15 q16 q17 q18 q19 ∧ (k2 = (if gb (gLt ct ed 8 e) = 1 then ct 8 else 0)) ∧ (ct2 = gu ct 8 (k2 + 1)) ∧ (ed2 = gu ed 8 e)) := by
  refine gC_of rfl kX0_add rfl rfl (Nat.le_of_ble_eq_true rfl) (fun X ad hX hE => ?_)
  refine G.go hX 3 (apW ct ed q0 q1 q2 q3 q4 q5 q6 q7 q8 q9 q10 q11 q12 q13 q14 q15 q16 q17 q18 q19, 3, [(0, gr 36), (1, gi 8), (2, gi e), (3, gi who)], [gi e, gi 8, gr 36]) rfl trivial ?_
  refine G.callV (av := [gi 8, gi e]) (o := 36) (st := []) hX rfl (fun l D cA => c_X0_isLatest l D cA ct ed q0 q1 q2 q3 q4 q5 q6 q7 q8 q9 q10 q11 q12 q13 q14 q15 q16 q17 q18 q19 8 e (by first | assumption | omega) (by first | assumption | omega) (by first | assumption | omega) (by first | assumption | omega)) (by decide +kernel) aX0_isLatest rfl rfl rfl ⟨rfl, rfl⟩ (by decide) (Nat.le_of_ble_eq_true rfl) [0, 1, 2, 3, 4, 5, 6, 7, 8, 9, 10, 11, 12, 13, 14, 15, 16, 17, 18, 19, 20, 21, 22, 23] [] [] rfl rfl rfl (fun r w' hp => ?_)
  obtain ⟨rfl, rfl⟩ := hp
  show G X mX0_add ad 0 0 (apW ct ed q0 q1 q2 q3 q4 q5 q6 q7 q8 q9 q10 q11 q12 q13 q14 q15 q16 q17 q18 q19, 6, [(0, gr 36), (1, gi 8), (2, gi e), (3, gi who)], [gi (gb (gLt ct ed 8 e))])
  refine g_if_ne hX 23 rfl rfl (gb_r _) (fun b6 => ?_) (fun b6 => ?_)
  ·
    have b6 := gb_n0 b6
    refine G.go hX 3 (apW ct ed q0 q1 q2 q3 q4 q5 q6 q7 q8 q9 q10 q11 q12 q13 q14 q15 q16 q17 q18 q19, 28, [(0, gr 36), (1, gi 8), (2, gi e), (3, gi who)], [gi 8, gr 39]) rfl trivial ?_
    refine g_aald hX 48 rfl rfl (by omega) rfl ?_
    refine G.go hX 14 (apW (gu ct 8 ((ct 8) + 1)) ed q0 q1 q2 q3 q4 q5 q6 q7 (gu q8 (ct 8) who) q9 q10 q11 q12 q13 q14 q15 q16 q17 q18 q19, 47, [(0, gr 36), (1, gi 8), (2, gi e), (3, gi who)], []) rfl ?_ ?_
    · refine ⟨?_, ?_, ?_, ?_, trivial⟩
      · omega
      · first | (have := hct 8; have := hl b6; omega) | (rw [gu_s]; omega)
      · omega
      · omega
    exact g_vret hX hE rfl ⟨_, ed, ct 8, rfl, rfl, by rw [gb_t b6, if_pos rfl], rfl, by (funext j; by_cases e9 : j = 8; (rw [e9, gu_s]; exact b6.2); rw [gu_n _ _ e9])⟩
  ·
    have b6 := gb_nn b6
    refine G.go hX 13 (apW (gu ct 8 0) (gu ed 8 e) q0 q1 q2 q3 q4 q5 q6 q7 q8 q9 q10 q11 q12 q13 q14 q15 q16 q17 q18 q19, 28, [(0, gr 36), (1, gi 8), (2, gi e), (3, gi who)], [gi 8, gr 39]) rfl ?_ ?_
    · refine ⟨?_, ?_, trivial⟩
      · omega
      · omega
    refine g_aald hX 48 rfl rfl (by omega) rfl ?_
    refine G.go hX 14 (apW (gu (gu ct 8 0) 8 (((gu ct 8 0) 8) + 1)) (gu ed 8 e) q0 q1 q2 q3 q4 q5 q6 q7 (gu q8 ((gu ct 8 0) 8) who) q9 q10 q11 q12 q13 q14 q15 q16 q17 q18 q19, 47, [(0, gr 36), (1, gi 8), (2, gi e), (3, gi who)], []) rfl ?_ ?_
    · refine ⟨?_, ?_, ?_, ?_, trivial⟩
      · omega
      · first | (have := hct 8; have := hl b6; omega) | (rw [gu_s]; omega)
      · omega
      · omega
    exact g_vret hX hE rfl ⟨_, _, 0, rfl, by rw [gu_s], by rw [gb_f b6, if_neg (by omega)], by (funext j; by_cases e9 : j = 8; (rw [e9, gu_s, gu_s]); rw [gu_n _ _ e9, gu_n _ _ e9, gu_n _ _ e9]), rfl⟩
set_option maxHeartbeats 4000000 in
set_option maxRecDepth 100000 in
theorem c_X0_add_9 (l : Launch) (D : va_G) (cA : Nat → ClassId) (ct : Int → Int) (ed : Int → Int) (q0 : Int → Int) (q1 : Int → Int) (q2 : Int → Int) (q3 : Int → Int) (q4 : Int → Int) (q5 : Int → Int) (q6 : Int → Int) (q7 : Int → Int) (q8 : Int → Int) (q9 : Int → Int) (q10 : Int → Int) (q11 : Int → Int) (q12 : Int → Int) (q13 : Int → Int) (q14 : Int → Int) (q15 : Int → Int) (q16 : Int → Int) (q17 : Int → Int) (q18 : Int → Int) (q19 : Int → Int) (e : Int) (who : Int) (hct : ∀ q : Int, 0 ≤ ct q ∧ ct q ≤ 6) (hed : ∀ q : Int, inR (ed q)) (he : inR e) (hl : gLt ct ed 9 e → ct 9 < 6) :
    gC l D cA yX0_add mX0_add none 0 0 [gr 36, gi 9, gi e, gi who] (apW ct ed q0 q1 q2 q3 q4 q5 q6 q7 q8 q9 q10 q11 q12 q13 q14 q15 q16 q17 q18 q19) (fun r9 w9 => ∃ (ct2 : Int → Int) (ed2 : Int → Int) (k2 : Int), r9 = none ∧ w9 = apW ct2 ed2 q0 q1 q2 q3 q4 q5 q6 q7 q8 (gu q9 k2 who) q10 q11 q12 q13 q14 q15 q16 q17 q18 q19 ∧ (k2 = (if gb (gLt ct ed 9 e) = 1 then ct 9 else 0)) ∧ (ct2 = gu ct 9 (k2 + 1)) ∧ (ed2 = gu ed 9 e)) := by
  refine gC_of rfl kX0_add rfl rfl (Nat.le_of_ble_eq_true rfl) (fun X ad hX hE => ?_)
  refine G.go hX 3 (apW ct ed q0 q1 q2 q3 q4 q5 q6 q7 q8 q9 q10 q11 q12 q13 q14 q15 q16 q17 q18 q19, 3, [(0, gr 36), (1, gi 9), (2, gi e), (3, gi who)], [gi e, gi 9, gr 36]) rfl trivial ?_
  refine G.callV (av := [gi 9, gi e]) (o := 36) (st := []) hX rfl (fun l D cA => c_X0_isLatest l D cA ct ed q0 q1 q2 q3 q4 q5 q6 q7 q8 q9 q10 q11 q12 q13 q14 q15 q16 q17 q18 q19 9 e (by first | assumption | omega) (by first | assumption | omega) (by first | assumption | omega) (by first | assumption | omega)) (by decide +kernel) aX0_isLatest rfl rfl rfl ⟨rfl, rfl⟩ (by decide) (Nat.le_of_ble_eq_true rfl) [0, 1, 2, 3, 4, 5, 6, 7, 8, 9, 10, 11, 12, 13, 14, 15, 16, 17, 18, 19, 20, 21, 22, 23] [] [] rfl rfl rfl (fun r w' hp => ?_)
  obtain ⟨rfl, rfl⟩ := hp
  show G X mX0_add ad 0 0 (apW ct ed q0 q1 q2 q3 q4 q5 q6 q7 q8 q9 q10 q11 q12 q13 q14 q15 q16 q17 q18 q19, 6, [(0, gr 36), (1, gi 9), (2, gi e), (3, gi who)], [gi (gb (gLt ct ed 9 e))])
  refine g_if_ne hX 23 rfl rfl (gb_r _) (fun b6 => ?_) (fun b6 => ?_)
  ·
    have b6 := gb_n0 b6
    refine G.go hX 3 (apW ct ed q0 q1 q2 q3 q4 q5 q6 q7 q8 q9 q10 q11 q12 q13 q14 q15 q16 q17 q18 q19, 28, [(0, gr 36), (1, gi 9), (2, gi e), (3, gi who)], [gi 9, gr 39]) rfl trivial ?_
    refine g_aald hX 49 rfl rfl (by omega) rfl ?_
    refine G.go hX 14 (apW (gu ct 9 ((ct 9) + 1)) ed q0 q1 q2 q3 q4 q5 q6 q7 q8 (gu q9 (ct 9) who) q10 q11 q12 q13 q14 q15 q16 q17 q18 q19, 47, [(0, gr 36), (1, gi 9), (2, gi e), (3, gi who)], []) rfl ?_ ?_
    · refine ⟨?_, ?_, ?_, ?_, trivial⟩
      · omega
      · first | (have := hct 9; have := hl b6; omega) | (rw [gu_s]; omega)
      · omega
      · omega
    exact g_vret hX hE rfl ⟨_, ed, ct 9, rfl, rfl, by rw [gb_t b6, if_pos rfl], rfl, by (funext j; by_cases e9 : j = 9; (rw [e9, gu_s]; exact b6.2); rw [gu_n _ _ e9])⟩
  ·
    have b6 := gb_nn b6
    refine G.go hX 13 (apW (gu ct 9 0) (gu ed 9 e) q0 q1 q2 q3 q4 q5 q6 q7 q8 q9 q10 q11 q12 q13 q14 q15 q16 q17 q18 q19, 28, [(0, gr 36), (1, gi 9), (2, gi e), (3, gi who)], [gi 9, gr 39]) rfl ?_ ?_
    · refine ⟨?_, ?_, trivial⟩
      · omega
      · omega
    refine g_aald hX 49 rfl rfl (by omega) rfl ?_
    refine G.go hX 14 (apW (gu (gu ct 9 0) 9 (((gu ct 9 0) 9) + 1)) (gu ed 9 e) q0 q1 q2 q3 q4 q5 q6 q7 q8 (gu q9 ((gu ct 9 0) 9) who) q10 q11 q12 q13 q14 q15 q16 q17 q18 q19, 47, [(0, gr 36), (1, gi 9), (2, gi e), (3, gi who)], []) rfl ?_ ?_
    · refine ⟨?_, ?_, ?_, ?_, trivial⟩
      · omega
      · first | (have := hct 9; have := hl b6; omega) | (rw [gu_s]; omega)
      · omega
      · omega
    exact g_vret hX hE rfl ⟨_, _, 0, rfl, by rw [gu_s], by rw [gb_f b6, if_neg (by omega)], by (funext j; by_cases e9 : j = 9; (rw [e9, gu_s, gu_s]); rw [gu_n _ _ e9, gu_n _ _ e9, gu_n _ _ e9]), rfl⟩
set_option maxHeartbeats 4000000 in
set_option maxRecDepth 100000 in
theorem c_X0_add_10 (l : Launch) (D : va_G) (cA : Nat → ClassId) (ct : Int → Int) (ed : Int → Int) (q0 : Int → Int) (q1 : Int → Int) (q2 : Int → Int) (q3 : Int → Int) (q4 : Int → Int) (q5 : Int → Int) (q6 : Int → Int) (q7 : Int → Int) (q8 : Int → Int) (q9 : Int → Int) (q10 : Int → Int) (q11 : Int → Int) (q12 : Int → Int) (q13 : Int → Int) (q14 : Int → Int) (q15 : Int → Int) (q16 : Int → Int) (q17 : Int → Int) (q18 : Int → Int) (q19 : Int → Int) (e : Int) (who : Int) (hct : ∀ q : Int, 0 ≤ ct q ∧ ct q ≤ 6) (hed : ∀ q : Int, inR (ed q)) (he : inR e) (hl : gLt ct ed 10 e → ct 10 < 6) :
    gC l D cA yX0_add mX0_add none 0 0 [gr 36, gi 10, gi e, gi who] (apW ct ed q0 q1 q2 q3 q4 q5 q6 q7 q8 q9 q10 q11 q12 q13 q14 q15 q16 q17 q18 q19) (fun r9 w9 => ∃ (ct2 : Int → Int) (ed2 : Int → Int) (k2 : Int), r9 = none ∧ w9 = apW ct2 ed2 q0 q1 q2 q3 q4 q5 q6 q7 q8 q9 (gu q10 k2 who) q11 q12 q13 q14 q15 q16 q17 q18 q19 ∧ (k2 = (if gb (gLt ct ed 10 e) = 1 then ct 10 else 0)) ∧ (ct2 = gu ct 10 (k2 + 1)) ∧ (ed2 = gu ed 10 e)) := by
  refine gC_of rfl kX0_add rfl rfl (Nat.le_of_ble_eq_true rfl) (fun X ad hX hE => ?_)
  refine G.go hX 3 (apW ct ed q0 q1 q2 q3 q4 q5 q6 q7 q8 q9 q10 q11 q12 q13 q14 q15 q16 q17 q18 q19, 3, [(0, gr 36), (1, gi 10), (2, gi e), (3, gi who)], [gi e, gi 10, gr 36]) rfl trivial ?_
  refine G.callV (av := [gi 10, gi e]) (o := 36) (st := []) hX rfl (fun l D cA => c_X0_isLatest l D cA ct ed q0 q1 q2 q3 q4 q5 q6 q7 q8 q9 q10 q11 q12 q13 q14 q15 q16 q17 q18 q19 10 e (by first | assumption | omega) (by first | assumption | omega) (by first | assumption | omega) (by first | assumption | omega)) (by decide +kernel) aX0_isLatest rfl rfl rfl ⟨rfl, rfl⟩ (by decide) (Nat.le_of_ble_eq_true rfl) [0, 1, 2, 3, 4, 5, 6, 7, 8, 9, 10, 11, 12, 13, 14, 15, 16, 17, 18, 19, 20, 21, 22, 23] [] [] rfl rfl rfl (fun r w' hp => ?_)
  obtain ⟨rfl, rfl⟩ := hp
  show G X mX0_add ad 0 0 (apW ct ed q0 q1 q2 q3 q4 q5 q6 q7 q8 q9 q10 q11 q12 q13 q14 q15 q16 q17 q18 q19, 6, [(0, gr 36), (1, gi 10), (2, gi e), (3, gi who)], [gi (gb (gLt ct ed 10 e))])
  refine g_if_ne hX 23 rfl rfl (gb_r _) (fun b6 => ?_) (fun b6 => ?_)
  ·
    have b6 := gb_n0 b6
    refine G.go hX 3 (apW ct ed q0 q1 q2 q3 q4 q5 q6 q7 q8 q9 q10 q11 q12 q13 q14 q15 q16 q17 q18 q19, 28, [(0, gr 36), (1, gi 10), (2, gi e), (3, gi who)], [gi 10, gr 39]) rfl trivial ?_
    refine g_aald hX 50 rfl rfl (by omega) rfl ?_
    refine G.go hX 14 (apW (gu ct 10 ((ct 10) + 1)) ed q0 q1 q2 q3 q4 q5 q6 q7 q8 q9 (gu q10 (ct 10) who) q11 q12 q13 q14 q15 q16 q17 q18 q19, 47, [(0, gr 36), (1, gi 10), (2, gi e), (3, gi who)], []) rfl ?_ ?_
    · refine ⟨?_, ?_, ?_, ?_, trivial⟩
      · omega
      · first | (have := hct 10; have := hl b6; omega) | (rw [gu_s]; omega)
      · omega
      · omega
    exact g_vret hX hE rfl ⟨_, ed, ct 10, rfl, rfl, by rw [gb_t b6, if_pos rfl], rfl, by (funext j; by_cases e9 : j = 10; (rw [e9, gu_s]; exact b6.2); rw [gu_n _ _ e9])⟩
  ·
    have b6 := gb_nn b6
    refine G.go hX 13 (apW (gu ct 10 0) (gu ed 10 e) q0 q1 q2 q3 q4 q5 q6 q7 q8 q9 q10 q11 q12 q13 q14 q15 q16 q17 q18 q19, 28, [(0, gr 36), (1, gi 10), (2, gi e), (3, gi who)], [gi 10, gr 39]) rfl ?_ ?_
    · refine ⟨?_, ?_, trivial⟩
      · omega
      · omega
    refine g_aald hX 50 rfl rfl (by omega) rfl ?_
    refine G.go hX 14 (apW (gu (gu ct 10 0) 10 (((gu ct 10 0) 10) + 1)) (gu ed 10 e) q0 q1 q2 q3 q4 q5 q6 q7 q8 q9 (gu q10 ((gu ct 10 0) 10) who) q11 q12 q13 q14 q15 q16 q17 q18 q19, 47, [(0, gr 36), (1, gi 10), (2, gi e), (3, gi who)], []) rfl ?_ ?_
    · refine ⟨?_, ?_, ?_, ?_, trivial⟩
      · omega
      · first | (have := hct 10; have := hl b6; omega) | (rw [gu_s]; omega)
      · omega
      · omega
    exact g_vret hX hE rfl ⟨_, _, 0, rfl, by rw [gu_s], by rw [gb_f b6, if_neg (by omega)], by (funext j; by_cases e9 : j = 10; (rw [e9, gu_s, gu_s]); rw [gu_n _ _ e9, gu_n _ _ e9, gu_n _ _ e9]), rfl⟩
set_option maxHeartbeats 4000000 in
set_option maxRecDepth 100000 in
theorem c_X0_add_11 (l : Launch) (D : va_G) (cA : Nat → ClassId) (ct : Int → Int) (ed : Int → Int) (q0 : Int → Int) (q1 : Int → Int) (q2 : Int → Int) (q3 : Int → Int) (q4 : Int → Int) (q5 : Int → Int) (q6 : Int → Int) (q7 : Int → Int) (q8 : Int → Int) (q9 : Int → Int) (q10 : Int → Int) (q11 : Int → Int) (q12 : Int → Int) (q13 : Int → Int) (q14 : Int → Int) (q15 : Int → Int) (q16 : Int → Int) (q17 : Int → Int) (q18 : Int → Int) (q19 : Int → Int) (e : Int) (who : Int) (hct : ∀ q : Int, 0 ≤ ct q ∧ ct q ≤ 6) (hed : ∀ q : Int, inR (ed q)) (he : inR e) (hl : gLt ct ed 11 e → ct 11 < 6) :
    gC l D cA yX0_add mX0_add none 0 0 [gr 36, gi 11, gi e, gi who] (apW ct ed q0 q1 q2 q3 q4 q5 q6 q7 q8 q9 q10 q11 q12 q13 q14 q15 q16 q17 q18 q19) (fun r9 w9 => ∃ (ct2 : Int → Int) (ed2 : Int → Int) (k2 : Int), r9 = none ∧ w9 = apW ct2 ed2 q0 q1 q2 q3 q4 q5 q6 q7 q8 q9 q10 (gu q11 k2 who) q12 q13 q14 q15 q16 q17 q18 q19 ∧ (k2 = (if gb (gLt ct ed 11 e) = 1 then ct 11 else 0)) ∧ (ct2 = gu ct 11 (k2 + 1)) ∧ (ed2 = gu ed 11 e)) := by
  refine gC_of rfl kX0_add rfl rfl (Nat.le_of_ble_eq_true rfl) (fun X ad hX hE => ?_)
  refine G.go hX 3 (apW ct ed q0 q1 q2 q3 q4 q5 q6 q7 q8 q9 q10 q11 q12 q13 q14 q15 q16 q17 q18 q19, 3, [(0, gr 36), (1, gi 11), (2, gi e), (3, gi who)], [gi e, gi 11, gr 36]) rfl trivial ?_
  refine G.callV (av := [gi 11, gi e]) (o := 36) (st := []) hX rfl (fun l D cA => c_X0_isLatest l D cA ct ed q0 q1 q2 q3 q4 q5 q6 q7 q8 q9 q10 q11 q12 q13 q14 q15 q16 q17 q18 q19 11 e (by first | assumption | omega) (by first | assumption | omega) (by first | assumption | omega) (by first | assumption | omega)) (by decide +kernel) aX0_isLatest rfl rfl rfl ⟨rfl, rfl⟩ (by decide) (Nat.le_of_ble_eq_true rfl) [0, 1, 2, 3, 4, 5, 6, 7, 8, 9, 10, 11, 12, 13, 14, 15, 16, 17, 18, 19, 20, 21, 22, 23] [] [] rfl rfl rfl (fun r w' hp => ?_)
  obtain ⟨rfl, rfl⟩ := hp
  show G X mX0_add ad 0 0 (apW ct ed q0 q1 q2 q3 q4 q5 q6 q7 q8 q9 q10 q11 q12 q13 q14 q15 q16 q17 q18 q19, 6, [(0, gr 36), (1, gi 11), (2, gi e), (3, gi who)], [gi (gb (gLt ct ed 11 e))])
  refine g_if_ne hX 23 rfl rfl (gb_r _) (fun b6 => ?_) (fun b6 => ?_)
  ·
    have b6 := gb_n0 b6
    refine G.go hX 3 (apW ct ed q0 q1 q2 q3 q4 q5 q6 q7 q8 q9 q10 q11 q12 q13 q14 q15 q16 q17 q18 q19, 28, [(0, gr 36), (1, gi 11), (2, gi e), (3, gi who)], [gi 11, gr 39]) rfl trivial ?_
    refine g_aald hX 51 rfl rfl (by omega) rfl ?_
    refine G.go hX 14 (apW (gu ct 11 ((ct 11) + 1)) ed q0 q1 q2 q3 q4 q5 q6 q7 q8 q9 q10 (gu q11 (ct 11) who) q12 q13 q14 q15 q16 q17 q18 q19, 47, [(0, gr 36), (1, gi 11), (2, gi e), (3, gi who)], []) rfl ?_ ?_
    · refine ⟨?_, ?_, ?_, ?_, trivial⟩
      · omega
      · first | (have := hct 11; have := hl b6; omega) | (rw [gu_s]; omega)
      · omega
      · omega
    exact g_vret hX hE rfl ⟨_, ed, ct 11, rfl, rfl, by rw [gb_t b6, if_pos rfl], rfl, by (funext j; by_cases e9 : j = 11; (rw [e9, gu_s]; exact b6.2); rw [gu_n _ _ e9])⟩
  ·
    have b6 := gb_nn b6
    refine G.go hX 13 (apW (gu ct 11 0) (gu ed 11 e) q0 q1 q2 q3 q4 q5 q6 q7 q8 q9 q10 q11 q12 q13 q14 q15 q16 q17 q18 q19, 28, [(0, gr 36), (1, gi 11), (2, gi e), (3, gi who)], [gi 11, gr 39]) rfl ?_ ?_
    · refine ⟨?_, ?_, trivial⟩
      · omega
      · omega
    refine g_aald hX 51 rfl rfl (by omega) rfl ?_
    refine G.go hX 14 (apW (gu (gu ct 11 0) 11 (((gu ct 11 0) 11) + 1)) (gu ed 11 e) q0 q1 q2 q3 q4 q5 q6 q7 q8 q9 q10 (gu q11 ((gu ct 11 0) 11) who) q12 q13 q14 q15 q16 q17 q18 q19, 47, [(0, gr 36), (1, gi 11), (2, gi e), (3, gi who)], []) rfl ?_ ?_
    · refine ⟨?_, ?_, ?_, ?_, trivial⟩
      · omega
      · first | (have := hct 11; have := hl b6; omega) | (rw [gu_s]; omega)
      · omega
      · omega
    exact g_vret hX hE rfl ⟨_, _, 0, rfl, by rw [gu_s], by rw [gb_f b6, if_neg (by omega)], by (funext j; by_cases e9 : j = 11; (rw [e9, gu_s, gu_s]); rw [gu_n _ _ e9, gu_n _ _ e9, gu_n _ _ e9]), rfl⟩
set_option maxHeartbeats 4000000 in
set_option maxRecDepth 100000 in
theorem c_X0_add_12 (l : Launch) (D : va_G) (cA : Nat → ClassId) (ct : Int → Int) (ed : Int → Int) (q0 : Int → Int) (q1 : Int → Int) (q2 : Int → Int) (q3 : Int → Int) (q4 : Int → Int) (q5 : Int → Int) (q6 : Int → Int) (q7 : Int → Int) (q8 : Int → Int) (q9 : Int → Int) (q10 : Int → Int) (q11 : Int → Int) (q12 : Int → Int) (q13 : Int → Int) (q14 : Int → Int) (q15 : Int → Int) (q16 : Int → Int) (q17 : Int → Int) (q18 : Int → Int) (q19 : Int → Int) (e : Int) (who : Int) (hct : ∀ q : Int, 0 ≤ ct q ∧ ct q ≤ 6) (hed : ∀ q : Int, inR (ed q)) (he : inR e) (hl : gLt ct ed 12 e → ct 12 < 6) :
    gC l D cA yX0_add mX0_add none 0 0 [gr 36, gi 12, gi e, gi who] (apW ct ed q0 q1 q2 q3 q4 q5 q6 q7 q8 q9 q10 q11 q12 q13 q14 q15 q16 q17 q18 q19) (fun r9 w9 => ∃ (ct2 : Int → Int) (ed2 : Int → Int) (k2 : Int), r9 = none ∧ w9 = apW ct2 ed2 q0 q1 q2 q3 q4 q5 q6 q7 q8 q9 q10 q11 (gu q12 k2 who) q13 q14 q15 q16 q17 q18 q19 ∧ (k2 = (if gb (gLt ct ed 12 e) = 1 then ct 12 else 0)) ∧ (ct2 = gu ct 12 (k2 + 1)) ∧ (ed2 = gu ed 12 e)) := by
  refine gC_of rfl kX0_add rfl rfl (Nat.le_of_ble_eq_true rfl) (fun X ad hX hE => ?_)
  refine G.go hX 3 (apW ct ed q0 q1 q2 q3 q4 q5 q6 q7 q8 q9 q10 q11 q12 q13 q14 q15 q16 q17 q18 q19, 3, [(0, gr 36), (1, gi 12), (2, gi e), (3, gi who)], [gi e, gi 12, gr 36]) rfl trivial ?_
  refine G.callV (av := [gi 12, gi e]) (o := 36) (st := []) hX rfl (fun l D cA => c_X0_isLatest l D cA ct ed q0 q1 q2 q3 q4 q5 q6 q7 q8 q9 q10 q11 q12 q13 q14 q15 q16 q17 q18 q19 12 e (by first | assumption | omega) (by first | assumption | omega) (by first | assumption | omega) (by first | assumption | omega)) (by decide +kernel) aX0_isLatest rfl rfl rfl ⟨rfl, rfl⟩ (by decide) (Nat.le_of_ble_eq_true rfl) [0, 1, 2, 3, 4, 5, 6, 7, 8, 9, 10, 11, 12, 13, 14, 15, 16, 17, 18, 19, 20, 21, 22, 23] [] [] rfl rfl rfl (fun r w' hp => ?_)
  obtain ⟨rfl, rfl⟩ := hp
  show G X mX0_add ad 0 0 (apW ct ed q0 q1 q2 q3 q4 q5 q6 q7 q8 q9 q10 q11 q12 q13 q14 q15 q16 q17 q18 q19, 6, [(0, gr 36), (1, gi 12), (2, gi e), (3, gi who)], [gi (gb (gLt ct ed 12 e))])
  refine g_if_ne hX 23 rfl rfl (gb_r _) (fun b6 => ?_) (fun b6 => ?_)
  ·
    have b6 := gb_n0 b6
    refine G.go hX 3 (apW ct ed q0 q1 q2 q3 q4 q5 q6 q7 q8 q9 q10 q11 q12 q13 q14 q15 q16 q17 q18 q19, 28, [(0, gr 36), (1, gi 12), (2, gi e), (3, gi who)], [gi 12, gr 39]) rfl trivial ?_
    refine g_aald hX 52 rfl rfl (by omega) rfl ?_
    refine G.go hX 14 (apW (gu ct 12 ((ct 12) + 1)) ed q0 q1 q2 q3 q4 q5 q6 q7 q8 q9 q10 q11 (gu q12 (ct 12) who) q13 q14 q15 q16 q17 q18 q19, 47, [(0, gr 36), (1, gi 12), (2, gi e), (3, gi who)], []) rfl ?_ ?_
    · refine ⟨?_, ?_, ?_, ?_, trivial⟩
      · omega
      · first | (have := hct 12; have := hl b6; omega) | (rw [gu_s]; omega)
      · omega
      · omega
    exact g_vret hX hE rfl ⟨_, ed, ct 12, rfl, rfl, by rw [gb_t b6, if_pos rfl], rfl, by (funext j; by_cases e9 : j = 12; (rw [e9, gu_s]; exact b6.2); rw [gu_n _ _ e9])⟩
  ·
    have b6 := gb_nn b6
    refine G.go hX 13 (apW (gu ct 12 0) (gu ed 12 e) q0 q1 q2 q3 q4 q5 q6 q7 q8 q9 q10 q11 q12 q13 q14 q15 q16 q17 q18 q19, 28, [(0, gr 36), (1, gi 12), (2, gi e), (3, gi who)], [gi 12, gr 39]) rfl ?_ ?_
    · refine ⟨?_, ?_, trivial⟩
      · omega
      · omega
    refine g_aald hX 52 rfl rfl (by omega) rfl ?_
    refine G.go hX 14 (apW (gu (gu ct 12 0) 12 (((gu ct 12 0) 12) + 1)) (gu ed 12 e) q0 q1 q2 q3 q4 q5 q6 q7 q8 q9 q10 q11 (gu q12 ((gu ct 12 0) 12) who) q13 q14 q15 q16 q17 q18 q19, 47, [(0, gr 36), (1, gi 12), (2, gi e), (3, gi who)], []) rfl ?_ ?_
    · refine ⟨?_, ?_, ?_, ?_, trivial⟩
      · omega
      · first | (have := hct 12; have := hl b6; omega) | (rw [gu_s]; omega)
      · omega
      · omega
    exact g_vret hX hE rfl ⟨_, _, 0, rfl, by rw [gu_s], by rw [gb_f b6, if_neg (by omega)], by (funext j; by_cases e9 : j = 12; (rw [e9, gu_s, gu_s]); rw [gu_n _ _ e9, gu_n _ _ e9, gu_n _ _ e9]), rfl⟩
set_option maxHeartbeats 4000000 in
set_option maxRecDepth 100000 in
theorem c_X0_add_13 (l : Launch) (D : va_G) (cA : Nat → ClassId) (ct : Int → Int) (ed : Int → Int) (q0 : Int → Int) (q1 : Int → Int) (q2 : Int → Int) (q3 : Int → Int) (q4 : Int → Int) (q5 : Int → Int) (q6 : Int → Int) (q7 : Int → Int) (q8 : Int → Int) (q9 : Int → Int) (q10 : Int → Int) (q11 : Int → Int) (q12 : Int → Int) (q13 : Int → Int) (q14 : Int → Int) (q15 : Int → Int) (q16 : Int → Int) (q17 : Int → Int) (q18 : Int → Int) (q19 : Int → Int) (e : Int) (who : Int) (hct : ∀ q : Int, 0 ≤ ct q ∧ ct q ≤ 6) (hed : ∀ q : Int, inR (ed q)) (he : inR e) (hl : gLt ct ed 13 e → ct 13 < 6) :
    gC l D cA yX0_add mX0_add none 0 0 [gr 36, gi 13, gi e, gi who] (apW ct ed q0 q1 q2 q3 q4 q5 q6 q7 q8 q9 q10 q11 q12 q13 q14 q15 q16 q17 q18 q19) (fun r9 w9 => ∃ (ct2 : Int → Int) (ed2 : Int → Int) (k2 : Int), r9 = none ∧ w9 = apW ct2 ed2 q0 q1 q2 q3 q4 q5 q6 q7 q8 q9 q10 q11 q12 (gu q13 k2 who) q14 q15 q16 q17 q18 q19 ∧ (k2 = (if gb (gLt ct ed 13 e) = 1 then ct 13 else 0)) ∧ (ct2 = gu ct 13 (k2 + 1)) ∧ (ed2 = gu ed 13 e)) := by
  refine gC_of rfl kX0_add rfl rfl (Nat.le_of_ble_eq_true rfl) (fun X ad hX hE => ?_)
  refine G.go hX 3 (apW ct ed q0 q1 q2 q3 q4 q5 q6 q7 q8 q9 q10 q11 q12 q13 q14 q15 q16 q17 q18 q19, 3, [(0, gr 36), (1, gi 13), (2, gi e), (3, gi who)], [gi e, gi 13, gr 36]) rfl trivial ?_
  refine G.callV (av := [gi 13, gi e]) (o := 36) (st := []) hX rfl (fun l D cA => c_X0_isLatest l D cA ct ed q0 q1 q2 q3 q4 q5 q6 q7 q8 q9 q10 q11 q12 q13 q14 q15 q16 q17 q18 q19 13 e (by first | assumption | omega) (by first | assumption | omega) (by first | assumption | omega) (by first | assumption | omega)) (by decide +kernel) aX0_isLatest rfl rfl rfl ⟨rfl, rfl⟩ (by decide) (Nat.le_of_ble_eq_true rfl) [0, 1, 2, 3, 4, 5, 6, 7, 8, 9, 10, 11, 12, 13, 14, 15, 16, 17, 18, 19, 20, 21, 22, 23] [] [] rfl rfl rfl (fun r w' hp => ?_)
  obtain ⟨rfl, rfl⟩ := hp
  show G X mX0_add ad 0 0 (apW ct ed q0 q1 q2 q3 q4 q5 q6 q7 q8 q9 q10 q11 q12 q13 q14 q15 q16 q17 q18 q19, 6, [(0, gr 36), (1, gi 13), (2, gi e), (3, gi who)], [gi (gb (gLt ct ed 13 e))])
  refine g_if_ne hX 23 rfl rfl (gb_r _) (fun b6 => ?_) (fun b6 => ?_)
  ·
    have b6 := gb_n0 b6
    refine G.go hX 3 (apW ct ed q0 q1 q2 q3 q4 q5 q6 q7 q8 q9 q10 q11 q12 q13 q14 q15 q16 q17 q18 q19, 28, [(0, gr 36), (1, gi 13), (2, gi e), (3, gi who)], [gi 13, gr 39]) rfl trivial ?_
    refine g_aald hX 53 rfl rfl (by omega) rfl ?_
    refine G.go hX 14 (apW (gu ct 13 ((ct 13) + 1)) ed q0 q1 q2 q3 q4 q5 q6 q7 q8 q9 q10 q11 q12 (gu q13 (ct 13) who) q14 q15 q16 q17 q18 q19, 47, [(0, gr 36), (1, gi 13), (2, gi e), (3, gi who)], []) rfl ?_ ?_
    · refine ⟨?_, ?_, ?_, ?_, trivial⟩
      · omega
      · first | (have := hct 13; have := hl b6; omega) | (rw [gu_s]; omega)
      · omega
      · omega
    exact g_vret hX hE rfl ⟨_, ed, ct 13, rfl, rfl, by rw [gb_t b6, if_pos rfl], rfl, by (funext j; by_cases e9 : j = 13; (rw [e9, gu_s]; exact b6.2); rw [gu_n _ _ e9])⟩
  ·
    have b6 := gb_nn b6
    refine G.go hX 13 (apW (gu ct 13 0) (gu ed 13 e) q0 q1 q2 q3 q4 q5 q6 q7 q8 q9 q10 q11 q12 q13 q14 q15 q16 q17 q18 q19, 28, [(0, gr 36), (1, gi 13), (2, gi e), (3, gi who)], [gi 13, gr 39]) rfl ?_ ?_
    · refine ⟨?_, ?_, trivial⟩
      · omega
      · omega
    refine g_aald hX 53 rfl rfl (by omega) rfl ?_
    refine G.go hX 14 (apW (gu (gu ct 13 0) 13 (((gu ct 13 0) 13) + 1)) (gu ed 13 e) q0 q1 q2 q3 q4 q5 q6 q7 q8 q9 q10 q11 q12 (gu q13 ((gu ct 13 0) 13) who) q14 q15 q16 q17 q18 q19, 47, [(0, gr 36), (1, gi 13), (2, gi e), (3, gi who)], []) rfl ?_ ?_
    · refine ⟨?_, ?_, ?_, ?_, trivial⟩
      · omega
      · first | (have := hct 13; have := hl b6; omega) | (rw [gu_s]; omega)
      · omega
      · omega
    exact g_vret hX hE rfl ⟨_, _, 0, rfl, by rw [gu_s], by rw [gb_f b6, if_neg (by omega)], by (funext j; by_cases e9 : j = 13; (rw [e9, gu_s, gu_s]); rw [gu_n _ _ e9, gu_n _ _ e9, gu_n _ _ e9]), rfl⟩
set_option maxHeartbeats 4000000 in
set_option maxRecDepth 100000 in
theorem c_X0_add_14 (l : Launch) (D : va_G) (cA : Nat → ClassId) (ct : Int → Int) (ed : Int → Int) (q0 : Int → Int) (q1 : Int → Int) (q2 : Int → Int) (q3 : Int → Int) (q4 : Int → Int) (q5 : Int → Int) (q6 : Int → Int) (q7 : Int → Int) (q8 : Int → Int) (q9 : Int → Int) (q10 : Int → Int) (q11 : Int → Int) (q12 : Int → Int) (q13 : Int → Int) (q14 : Int → Int) (q15 : Int → Int) (q16 : Int → Int) (q17 : Int → Int) (q18 : Int → Int) (q19 : Int → Int) (e : Int) (who : Int) (hct : ∀ q : Int, 0 ≤ ct q ∧ ct q ≤ 6) (hed : ∀ q : Int, inR (ed q)) (he : inR e) (hl : gLt ct ed 14 e → ct 14 < 6) :
    gC l D cA yX0_add mX0_add none 0 0 [gr 36, gi 14, gi e, gi who] (apW ct ed q0 q1 q2 q3 q4 q5 q6 q7 q8 q9 q10 q11 q12 q13 q14 q15 q16 q17 q18 q19) (fun r9 w9 => ∃ (ct2 : Int → Int) (ed2 : Int → Int) (k2 : Int), r9 = none ∧ w9 = apW ct2 ed2 q0 q1 q2 q3 q4 q5 q6 q7 q8 q9 q10 q11 q12 q13 (gu q14 k2 who) q15 q16 q17 q18 q19 ∧ (k2 = (if gb (gLt ct ed 14 e) = 1 then ct 14 else 0)) ∧ (ct2 = gu ct 14 (k2 + 1)) ∧ (ed2 = gu ed 14 e)) := by
  refine gC_of rfl kX0_add rfl rfl (Nat.le_of_ble_eq_true rfl) (fun X ad hX hE => ?_)
  refine G.go hX 3 (apW ct ed q0 q1 q2 q3 q4 q5 q6 q7 q8 q9 q10 q11 q12 q13 q14 q15 q16 q17 q18 q19, 3, [(0, gr 36), (1, gi 14), (2, gi e), (3, gi who)], [gi e, gi 14, gr 36]) rfl trivial ?_
  refine G.callV (av := [gi 14, gi e]) (o := 36) (st := []) hX rfl (fun l D cA => c_X0_isLatest l D cA ct ed q0 q1 q2 q3 q4 q5 q6 q7 q8 q9 q10 q11 q12 q13 q14 q15 q16 q17 q18 q19 14 e (by first | assumption | omega) (by first | assumption | omega) (by first | assumption | omega) (by first | assumption | omega)) (by decide +kernel) aX0_isLatest rfl rfl rfl ⟨rfl, rfl⟩ (by decide) (Nat.le_of_ble_eq_true rfl) [0, 1, 2, 3, 4, 5, 6, 7, 8, 9, 10, 11, 12, 13, 14, 15, 16, 17, 18, 19, 20, 21, 22, 23] [] [] rfl rfl rfl (fun r w' hp => ?_)
  obtain ⟨rfl, rfl⟩ := hp
  show G X mX0_add ad 0 0 (apW ct ed q0 q1 q2 q3 q4 q5 q6 q7 q8 q9 q10 q11 q12 q13 q14 q15 q16 q17 q18 q19, 6, [(0, gr 36), (1, gi 14), (2, gi e), (3, gi who)], [gi (gb (gLt ct ed 14 e))])
  refine g_if_ne hX 23 rfl rfl (gb_r _) (fun b6 => ?_) (fun b6 => ?_)
  ·
    have b6 := gb_n0 b6
    refine G.go hX 3 (apW ct ed q0 q1 q2 q3 q4 q5 q6 q7 q8 q9 q10 q11 q12 q13 q14 q15 q16 q17 q18 q19, 28, [(0, gr 36), (1, gi 14), (2, gi e), (3, gi who)], [gi 14, gr 39]) rfl trivial ?_
    refine g_aald hX 54 rfl rfl (by omega) rfl ?_
    refine G.go hX 14 (apW (gu ct 14 ((ct 14) + 1)) ed q0 q1 q2 q3 q4 q5 q6 q7 q8 q9 q10 q11 q12 q13 (gu q14 (ct 14) who) q15 q16 q17 q18 q19, 47, [(0, gr 36), (1, gi 14), (2, gi e), (3, gi who)], []) rfl ?_ ?_
    · refine ⟨?_, ?_, ?_, ?_, trivial⟩
      · omega
      · first | (have := hct 14; have := hl b6; omega) | (rw [gu_s]; omega)
      · omega
      · omega
    exact g_vret hX hE rfl ⟨_, ed, ct 14, rfl, rfl, by rw [gb_t b6, if_pos rfl], rfl, by (funext j; by_cases e9 : j = 14; (rw [e9, gu_s]; exact b6.2); rw [gu_n _ _ e9])⟩
  ·
    have b6 := gb_nn b6
    refine G.go hX 13 (apW (gu ct 14 0) (gu ed 14 e) q0 q1 q2 q3 q4 q5 q6 q7 q8 q9 q10 q11 q12 q13 q14 q15 q16 q17 q18 q19, 28, [(0, gr 36), (1, gi 14), (2, gi e), (3, gi who)], [gi 14, gr 39]) rfl ?_ ?_
    · refine ⟨?_, ?_, trivial⟩
      · omega
      · omega
    refine g_aald hX 54 rfl rfl (by omega) rfl ?_
    refine G.go hX 14 (apW (gu (gu ct 14 0) 14 (((gu ct 14 0) 14) + 1)) (gu ed 14 e) q0 q1 q2 q3 q4 q5 q6 q7 q8 q9 q10 q11 q12 q13 (gu q14 ((gu ct 14 0) 14) who) q15 q16 q17 q18 q19, 47, [(0, gr 36), (1, gi 14), (2, gi e), (3, gi who)], []) rfl ?_ ?_
    · refine ⟨?_, ?_, ?_, ?_, trivial⟩
      · omega
      · first | (have := hct 14; have := hl b6; omega) | (rw [gu_s]; omega)
      · omega
      · omega
    exact g_vret hX hE rfl ⟨_, _, 0, rfl, by rw [gu_s], by rw [gb_f b6, if_neg (by omega)], by (funext j; by_cases e9 : j = 14; (rw [e9, gu_s, gu_s]); rw [gu_n _ _ e9, gu_n _ _ e9, gu_n _ _ e9]), rfl⟩
set_option maxHeartbeats 4000000 in
set_option maxRecDepth 100000 in
theorem c_X0_add_15 (l : Launch) (D : va_G) (cA : Nat → ClassId) (ct : Int → Int) (ed : Int → Int) (q0 : Int → Int) (q1 : Int → Int) (q2 : Int → Int) (q3 : Int → Int) (q4 : Int → Int) (q5 : Int → Int) (q6 : Int → Int) (q7 : Int → Int) (q8 : Int → Int) (q9 : Int → Int) (q10 : Int → Int) (q11 : Int → Int) (q12 : Int → Int) (q13 : Int → Int) (q14 : Int → Int) (q15 : Int → Int) (q16 : Int → Int) (q17 : Int → Int) (q18 : Int → Int) (q19 : Int → Int) (e : Int) (who : Int) (hct : ∀ q : Int, 0 ≤ ct q ∧ ct q ≤ 6) (hed : ∀ q : Int, inR (ed q)) (he : inR e) (hl : gLt ct ed 15 e → ct 15 < 6) :
    gC l D cA yX0_add mX0_add none 0 0 [gr 36, gi 15, gi e, gi who] (apW ct ed q0 q1 q2 q3 q4 q5 q6 q7 q8 q9 q10 q11 q12 q13 q14 q15 q16 q17 q18 q19) (fun r9 w9 => ∃ (ct2 : Int → Int) (ed2 : Int → Int) (k2 : Int), r9 = none ∧ w9 = apW ct2 ed2 q0 q1 q2 q3 q4 q5 q6 q7 q8 q9 q10 q11 q12 q13 q14 (gu q15 k2 who) q16 q17 q18 q19 ∧ (k2 = (if gb (gLt ct ed 15 e) = 1 then ct 15 else 0)) ∧ (ct2 = gu ct 15 (k2 + 1)) ∧ (ed2 = gu ed 15 e)) := by
  refine gC_of rfl kX0_add rfl rfl (Nat.le_of_ble_eq_true rfl) (fun X ad hX hE => ?_)
  refine G.go hX 3 (apW ct ed q0 q1 q2 q3 q4 q5 q6 q7 q8 q9 q10 q11 q12 q13 q14 q15 q16 q17 q18 q19, 3, [(0, gr 36), (1, gi 15), (2, gi e), (3, gi who)], [gi e, gi 15, gr 36]) rfl trivial ?_
  refine G.callV (av := [gi 15, gi e]) (o := 36) (st := []) hX rfl (fun l D cA => c_X0_isLatest l D cA ct ed q0 q1 q2 q3 q4 q5 q6 q7 q8 q9 q10 q11 q12 q13 q14 q15 q16 q17 q18 q19 15 e (by first | assumption | omega) (by first | assumption | omega) (by first | assumption | omega) (by first | assumption | omega)) (by decide +kernel) aX0_isLatest rfl rfl rfl ⟨rfl, rfl⟩ (by decide) (Nat.le_of_ble_eq_true rfl) [0, 1, 2, 3, 4, 5, 6, 7, 8, 9, 10, 11, 12, 13, 14, 15, 16, 17, 18, 19, 20, 21, 22, 23] [] [] rfl rfl rfl (fun r w' hp => ?_)
  obtain ⟨rfl, rfl⟩ := hp
  show G X mX0_add ad 0 0 (apW ct ed q0 q1 q2 q3 q4 q5 q6 q7 q8 q9 q10 q11 q12 q13 q14 q15 q16 q17 q18 q19, 6, [(0, gr 36), (1, gi 15), (2, gi e), (3, gi who)], [gi (gb (gLt ct ed 15 e))])
  refine g_if_ne hX 23 rfl rfl (gb_r _) (fun b6 => ?_) (fun b6 => ?_)
  ·
    have b6 := gb_n0 b6
    refine G.go hX 3 (apW ct ed q0 q1 q2 q3 q4 q5 q6 q7 q8 q9 q10 q11 q12 q13 q14 q15 q16 q17 q18 q19, 28, [(0, gr 36), (1, gi 15), (2, gi e), (3, gi who)], [gi 15, gr 39]) rfl trivial ?_
    refine g_aald hX 55 rfl rfl (by omega) rfl ?_
    refine G.go hX 14 (apW (gu ct 15 ((ct 15) + 1)) ed q0 q1 q2 q3 q4 q5 q6 q7 q8 q9 q10 q11 q12 q13 q14 (gu q15 (ct 15) who) q16 q17 q18 q19, 47, [(0, gr 36), (1, gi 15), (2, gi e), (3, gi who)], []) rfl ?_ ?_
    · refine ⟨?_, ?_, ?_, ?_, trivial⟩
      · omega
      · first | (have := hct 15; have := hl b6; omega) | (rw [gu_s]; omega)
      · omega
      · omega
    exact g_vret hX hE rfl ⟨_, ed, ct 15, rfl, rfl, by rw [gb_t b6, if_pos rfl], rfl, by (funext j; by_cases e9 : j = 15; (rw [e9, gu_s]; exact b6.2); rw [gu_n _ _ e9])⟩
  ·
    have b6 := gb_nn b6
    refine G.go hX 13 (apW (gu ct 15 0) (gu ed 15 e) q0 q1 q2 q3 q4 q5 q6 q7 q8 q9 q10 q11 q12 q13 q14 q15 q16 q17 q18 q19, 28, [(0, gr 36), (1, gi 15), (2, gi e), (3, gi who)], [gi 15, gr 39]) rfl ?_ ?_
    · refine ⟨?_, ?_, trivial⟩
      · omega
      · omega
    refine g_aald hX 55 rfl rfl (by omega) rfl ?_
    refine G.go hX 14 (apW (gu (gu ct 15 0) 15 (((gu ct 15 0) 15) + 1)) (gu ed 15 e) q0 q1 q2 q3 q4 q5 q6 q7 q8 q9 q10 q11 q12 q13 q14 (gu q15 ((gu ct 15 0) 15) who) q16 q17 q18 q19, 47, [(0, gr 36), (1, gi 15), (2, gi e), (3, gi who)], []) rfl ?_ ?_
    · refine ⟨?_, ?_, ?_, ?_, trivial⟩
      · omega
      · first | (have := hct 15; have := hl b6; omega) | (rw [gu_s]; omega)
      · omega
      · omega
    exact g_vret hX hE rfl ⟨_, _, 0, rfl, by rw [gu_s], by rw [gb_f b6, if_neg (by omega)], by (funext j; by_cases e9 : j = 15; (rw [e9, gu_s, gu_s]); rw [gu_n _ _ e9, gu_n _ _ e9, gu_n _ _ e9]), rfl⟩
set_option maxHeartbeats 4000000 in
set_option maxRecDepth 100000 in
theorem c_X0_add_16 (l : Launch) (D : va_G) (cA : Nat → ClassId) (ct : Int → Int) (ed : Int → Int) (q0 : Int → Int) (q1 : Int → Int) (q2 : Int → Int) (q3 : Int → Int) (q4 : Int → Int) (q5 : Int → Int) (q6 : Int → Int) (q7 : Int → Int) (q8 : Int → Int) (q9 : Int → Int) (q10 : Int → Int) (q11 : Int → Int) (q12 : Int → Int) (q13 : Int → Int) (q14 : Int → Int) (q15 : Int → Int) (q16 : Int → Int) (q17 : Int → Int) (q18 : Int → Int) (q19 : Int → Int) (e : Int) (who : Int) (hct : ∀ q : Int, 0 ≤ ct q ∧ ct q ≤ 6) (hed : ∀ q : Int, inR (ed q)) (he : inR e) (hl : gLt ct ed 16 e → ct 16 < 6) :
    gC l D cA yX0_add mX0_add none 0 0 [gr 36, gi 16, gi e, gi who] (apW ct ed q0 q1 q2 q3 q4 q5 q6 q7 q8 q9 q10 q11 q12 q13 q14 q15 q16 q17 q18 q19) (fun r9 w9 => ∃ (ct2 : Int → Int) (ed2 : Int → Int) (k2 : Int), r9 = none ∧ w9 = apW ct2 ed2 q0 q1 q2 q3 q4 q5 q6 q7 q8 q9 q10 q11 q12 q13 q14 q15 (gu q16 k2 who) q17 q18 q19 ∧ (k2 = (if gb (gLt ct ed 16 e) = 1 then ct 16 else 0)) ∧ (ct2 = gu ct 16 (k2 + 1)) ∧ (ed2 = gu ed 16 e)) := by
  refine gC_of rfl kX0_add rfl rfl (Nat.le_of_ble_eq_true rfl) (fun X ad hX hE => ?_)
  refine G.go hX 3 (apW ct ed q0 q1 q2 q3 q4 q5 q6 q7 q8 q9 q10 q11 q12 q13 q14 q15 q16 q17 q18 q19, 3, [(0, gr 36), (1, gi 16), (2, gi e), (3, gi who)], [gi e, gi 16, gr 36]) rfl trivial ?_
  refine G.callV (av := [gi 16, gi e]) (o := 36) (st := []) hX rfl (fun l D cA => c_X0_isLatest l D cA ct ed q0 q1 q2 q3 q4 q5 q6 q7 q8 q9 q10 q11 q12 q13 q14 q15 q16 q17 q18 q19 16 e (by first | assumption | omega) (by first | assumption | omega) (by first | assumption | omega) (by first | assumption | omega)) (by decide +kernel) aX0_isLatest rfl rfl rfl ⟨rfl, rfl⟩ (by decide) (Nat.le_of_ble_eq_true rfl) [0, 1, 2, 3, 4, 5, 6, 7, 8, 9, 10, 11, 12, 13, 14, 15, 16, 17, 18, 19, 20, 21, 22, 23] [] [] rfl rfl rfl (fun r w' hp => ?_)
  obtain ⟨rfl, rfl⟩ := hp
  show G X mX0_add ad 0 0 (apW ct ed q0 q1 q2 q3 q4 q5 q6 q7 q8 q9 q10 q11 q12 q13 q14 q15 q16 q17 q18 q19, 6, [(0, gr 36), (1, gi 16), (2, gi e), (3, gi who)], [gi (gb (gLt ct ed 16 e))])
  refine g_if_ne hX 23 rfl rfl (gb_r _) (fun b6 => ?_) (fun b6 => ?_)
  ·
    have b6 := gb_n0 b6
    refine G.go hX 3 (apW ct ed q0 q1 q2 q3 q4 q5 q6 q7 q8 q9 q10 q11 q12 q13 q14 q15 q16 q17 q18 q19, 28, [(0, gr 36), (1, gi 16), (2, gi e), (3, gi who)], [gi 16, gr 39]) rfl trivial ?_
    refine g_aald hX 56 rfl rfl (by omega) rfl ?_
    refine G.go hX 14 (apW (gu ct 16 ((ct 16) + 1)) ed q0 q1 q2 q3 q4 q5 q6 q7 q8 q9 q10 q11 q12 q13 q14 q15 (gu q16 (ct 16) who) q17 q18 q19, 47, [(0, gr 36), (1, gi 16), (2, gi e), (3, gi who)], []) rfl ?_ ?_
    · refine ⟨?_, ?_, ?_, ?_, trivial⟩
      · omega
      · first | (have := hct 16; have := hl b6; omega) | (rw [gu_s]; omega)
      · omega
      · omega
    exact g_vret hX hE rfl ⟨_, ed, ct 16, rfl, rfl, by rw [gb_t b6, if_pos rfl], rfl, by (funext j; by_cases e9 : j = 16; (rw [e9, gu_s]; exact b6.2); rw [gu_n _ _ e9])⟩
  ·
    have b6 := gb_nn b6
    refine G.go hX 13 (apW (gu ct 16 0) (gu ed 16 e) q0 q1 q2 q3 q4 q5 q6 q7 q8 q9 q10 q11 q12 q13 q14 q15 q16 q17 q18 q19, 28, [(0, gr 36), (1, gi 16), (2, gi e), (3, gi who)], [gi 16, gr 39]) rfl ?_ ?_
    · refine ⟨?_, ?_, trivial⟩
      · omega
      · omega
    refine g_aald hX 56 rfl rfl (by omega) rfl ?_
    refine G.go hX 14 (apW (gu (gu ct 16 0) 16 (((gu ct 16 0) 16) + 1)) (gu ed 16 e) q0 q1 q2 q3 q4 q5 q6 q7 q8 q9 q10 q11 q12 q13 q14 q15 (gu q16 ((gu ct 16 0) 16) who) q17 q18 q19, 47, [(0, gr 36), (1, gi 16), (2, gi e), (3, gi who)], []) rfl ?_ ?_
    · refine ⟨?_, ?_, ?_, ?_, trivial⟩
      · omega
      · first | (have := hct 16; have := hl b6; omega) | (rw [gu_s]; omega)
      · omega
      · omega
    exact g_vret hX hE rfl ⟨_, _, 0, rfl, by rw [gu_s], by rw [gb_f b6, if_neg (by omega)], by (funext j; by_cases e9 : j = 16; (rw [e9, gu_s, gu_s]); rw [gu_n _ _ e9, gu_n _ _ e9, gu_n _ _ e9]), rfl⟩
set_option maxHeartbeats 4000000 in
set_option maxRecDepth 100000 in
theorem c_X0_add_17 (l : Launch) (D : va_G) (cA : Nat → ClassId) (ct : Int → Int) (ed : Int → Int) (q0 : Int → Int) (q1 : Int → Int) (q2 : Int → Int) (q3 : Int → Int) (q4 : Int → Int) (q5 : Int → Int) (q6 : Int → Int) (q7 : Int → Int) (q8 : Int → Int) (q9 : Int → Int) (q10 : Int → Int) (q11 : Int → Int) (q12 : Int → Int) (q13 : Int → Int) (q14 : Int → Int) (q15 : Int → Int) (q16 : Int → Int) (q17 : Int → Int) (q18 : Int → Int) (q19 : Int → Int) (e : Int) (who : Int) (hct : ∀ q : Int, 0 ≤ ct q ∧ ct q ≤ 6) (hed : ∀ q : Int, inR (ed q)) (he : inR e) (hl : gLt ct ed 17 e → ct 17 < 6) :
    gC l D cA yX0_add mX0_add none 0 0 [gr 36, gi 17, gi e, gi who] (apW ct ed q0 q1 q2 q3 q4 q5 q6 q7 q8 q9 q10 q11 q12 q13 q14 q15 q16 q17 q18 q19) (fun r9 w9 => ∃ (ct2 : Int → Int) (ed2 : Int → Int) (k2 : Int), r9 = none ∧ w9 = apW ct2 ed2 q0 q1 q2 q3 q4 q5 q6 q7 q8 q9 q10 q11 q12 q13 q14 q15 q16 (gu q17 k2 who) q18 q19 ∧ (k2 = (if gb (gLt ct ed 17 e) = 1 then ct 17 else 0)) ∧ (ct2 = gu ct 17 (k2 + 1)) ∧ (ed2 = gu ed 17 e)) := by
  refine gC_of rfl kX0_add rfl rfl (Nat.le_of_ble_eq_true rfl) (fun X ad hX hE => ?_)
  refine G.go hX 3 (apW ct ed q0 q1 q2 q3 q4 q5 q6 q7 q8 q9 q10 q11 q12 q13 q14 q15 q16 q17 q18 q19, 3, [(0, gr 36), (1, gi 17), (2, gi e), (3, gi who)], [gi e, gi 17, gr 36]) rfl trivial ?_
  refine G.callV (av := [gi 17, gi e]) (o := 36) (st := []) hX rfl (fun l D cA => c_X0_isLatest l D cA ct ed q0 q1 q2 q3 q4 q5 q6 q7 q8 q9 q10 q11 q12 q13 q14 q15 q16 q17 q18 q19 17 e (by first | assumption | omega) (by first | assumption | omega) (by first | assumption | omega) (by first | assumption | omega)) (by decide +kernel) aX0_isLatest rfl rfl rfl ⟨rfl, rfl⟩ (by decide) (Nat.le_of_ble_eq_true rfl) [0, 1, 2, 3, 4, 5, 6, 7, 8, 9, 10, 11, 12, 13, 14, 15, 16, 17, 18, 19, 20, 21, 22, 23] [] [] rfl rfl rfl (fun r w' hp => ?_)
  obtain ⟨rfl, rfl⟩ := hp
  show G X mX0_add ad 0 0 (apW ct ed q0 q1 q2 q3 q4 q5 q6 q7 q8 q9 q10 q11 q12 q13 q14 q15 q16 q17 q18 q19, 6, [(0, gr 36), (1, gi 17), (2, gi e), (3, gi who)], [gi (gb (gLt ct ed 17 e))])
  refine g_if_ne hX 23 rfl rfl (gb_r _) (fun b6 => ?_) (fun b6 => ?_)
  ·
    have b6 := gb_n0 b6
    refine G.go hX 3 (apW ct ed q0 q1 q2 q3 q4 q5 q6 q7 q8 q9 q10 q11 q12 q13 q14 q15 q16 q17 q18 q19, 28, [(0, gr 36), (1, gi 17), (2, gi e), (3, gi who)], [gi 17, gr 39]) rfl trivial ?_
    refine g_aald hX 57 rfl rfl (by omega) rfl ?_
    refine G.go hX 14 (apW (gu ct 17 ((ct 17) + 1)) ed q0 q1 q2 q3 q4 q5 q6 q7 q8 q9 q10 q11 q12 q13 q14 q15 q16 (gu q17 (ct 17) who) q18 q19, 47, [(0, gr 36), (1, gi 17), (2, gi e), (3, gi who)], []) rfl ?_ ?_
    · refine ⟨?_, ?_, ?_, ?_, trivial⟩
      · omega
      · first | (have := hct 17; have := hl b6; omega) | (rw [gu_s]; omega)
      · omega
      · omega
    exact g_vret hX hE rfl ⟨_, ed, ct 17, rfl, rfl, by rw [gb_t b6, if_pos rfl], rfl, by (funext j; by_cases e9 : j = 17; (rw [e9, gu_s]; exact b6.2); rw [gu_n _ _ e9])⟩
  ·
    have b6 := gb_nn b6
    refine G.go hX 13 (apW (gu ct 17 0) (gu ed 17 e) q0 q1 q2 q3 q4 q5 q6 q7 q8 q9 q10 q11 q12 q13 q14 q15 q16 q17 q18 q19, 28, [(0, gr 36), (1, gi 17), (2, gi e), (3, gi who)], [gi 17, gr 39]) rfl ?_ ?_
    · refine ⟨?_, ?_, trivial⟩
      · omega
      · omega
    refine g_aald hX 57 rfl rfl (by omega) rfl ?_
    refine G.go hX 14 (apW (gu (gu ct 17 0) 17 (((gu ct 17 0) 17) + 1)) (gu ed 17 e) q0 q1 q2 q3 q4 q5 q6 q7 q8 q9 q10 q11 q12 q13 q14 q15 q16 (gu q17 ((gu ct 17 0) 17) who) q18 q19, 47, [(0, gr 36), (1, gi 17), (2, gi e), (3, gi who)], []) rfl ?_ ?_
    · refine ⟨?_, ?_, ?_, ?_, trivial⟩
      · omega
      · first | (have := hct 17; have := hl b6; omega) | (rw [gu_s]; omega)
      · omega
      · omega
    exact g_vret hX hE rfl ⟨_, _, 0, rfl, by rw [gu_s], by rw [gb_f b6, if_neg (by omega)], by (funext j; by_cases e9 : j = 17; (rw [e9, gu_s, gu_s]); rw [gu_n _ _ e9, gu_n _ _ e9, gu_n _ _ e9]), rfl⟩
set_option maxHeartbeats 4000000 in
set_option maxRecDepth 100000 in
theorem c_X0_add_18 (l : Launch) (D : va_G) (cA : Nat → ClassId) (ct : Int → Int) (ed : Int → Int) (q0 : Int → Int) (q1 : Int → Int) (q2 : Int → Int) (q3 : Int → Int) (q4 : Int → Int) (q5 : Int → Int) (q6 : Int → Int) (q7 : Int → Int) (q8 : Int → Int) (q9 : Int → Int) (q10 : Int → Int) (q11 : Int → Int) (q12 : Int → Int) (q13 : Int → Int) (q14 : Int → Int) (q15 : Int → Int) (q16 : Int → Int) (q17 : Int → Int) (q18 : Int → Int) (q19 : Int → Int) (e : Int) (who : Int) (hct : ∀ q : Int, 0 ≤ ct q ∧ ct q ≤ 6) (hed : ∀ q : Int, inR (ed q)) (he : inR e) (hl : gLt ct ed 18 e → ct 18 < 6) :
    gC l D cA yX0_add mX0_add none 0 0 [gr 36, gi 18, gi e, gi who] (apW ct ed q0 q1 q2 q3 q4 q5 q6 q7 q8 q9 q10 q11 q12 q13 q14 q15 q16 q17 q18 q19) (fun r9 w9 => ∃ (ct2 : Int → Int) (ed2 : Int → Int) (k2 : Int), r9 = none ∧ w9 = apW ct2 ed2 q0 q1 q2 q3 q4 q5 q6 q7 q8 q9 q10 q11 q12 q13 q14 q15 q16 q17 (gu q18 k2 who) q19 ∧ (k2 = (if gb (gLt ct ed 18 e) = 1 then ct 18 else 0)) ∧ (ct2 = gu ct 18 (k2 + 1)) ∧ (ed2 = gu ed 18 e)) := by
  refine gC_of rfl kX0_add rfl rfl (Nat.le_of_ble_eq_true rfl) (fun X ad hX hE => ?_)
  refine G.go hX 3 (apW ct ed q0 q1 q2 q3 q4 q5 q6 q7 q8 q9 q10 q11 q12 q13 q14 q15 q16 q17 q18 q19, 3, [(0, gr 36), (1, gi 18), (2, gi e), (3, gi who)], [gi e, gi 18, gr 36]) rfl trivial ?_
  refine G.callV (av := [gi 18, gi e]) (o := 36) (st := []) hX rfl (fun l D cA => c_X0_isLatest l D cA ct ed q0 q1 q2 q3 q4 q5 q6 q7 q8 q9 q10 q11 q12 q13 q14 q15 q16 q17 q18 q19 18 e (by first | assumption | omega) (by first | assumption | omega) (by first | assumption | omega) (by first | assumption | omega)) (by decide +kernel) aX0_isLatest rfl rfl rfl ⟨rfl, rfl⟩ (by decide) (Nat.le_of_ble_eq_true rfl) [0, 1, 2, 3, 4, 5, 6, 7, 8, 9, 10, 11, 12, 13, 14, 15, 16, 17, 18, 19, 20, 21, 22, 23] [] [] rfl rfl rfl (fun r w' hp => ?_)
  obtain ⟨rfl, rfl⟩ := hp
  show G X mX0_add ad 0 0 (apW ct ed q0 q1 q2 q3 q4 q5 q6 q7 q8 q9 q10 q11 q12 q13 q14 q15 q16 q17 q18 q19, 6, [(0, gr 36), (1, gi 18), (2, gi e), (3, gi who)], [gi (gb (gLt ct ed 18 e))])
  refine g_if_ne hX 23 rfl rfl (gb_r _) (fun b6 => ?_) (fun b6 => ?_)
  ·
    have b6 := gb_n0 b6
    refine G.go hX 3 (apW ct ed q0 q1 q2 q3 q4 q5 q6 q7 q8 q9 q10 q11 q12 q13 q14 q15 q16 q17 q18 q19, 28, [(0, gr 36), (1, gi 18), (2, gi e), (3, gi who)], [gi 18, gr 39]) rfl trivial ?_
    refine g_aald hX 58 rfl rfl (by omega) rfl ?_
    refine G.go hX 14 (apW (gu ct 18 ((ct 18) + 1)) ed q0 q1 q2 q3 q4 q5 q6 q7 q8 q9 q10 q11 q12 q13 q14 q15 q16 q17 (gu q18 (ct 18) who) q19, 47, [(0, gr 36), (1, gi 18), (2, gi e), (3, gi who)], []) rfl ?_ ?_
    · refine ⟨?_, ?_, ?_, ?_, trivial⟩
      · omega
      · first | (have := hct 18; have := hl b6; omega) | (rw [gu_s]; omega)
      · omega
      · omega
    exact g_vret hX hE rfl ⟨_, ed, ct 18, rfl, rfl, by rw [gb_t b6, if_pos rfl], rfl, by (funext j; by_cases e9 : j = 18; (rw [e9, gu_s]; exact b6.2); rw [gu_n _ _ e9])⟩
  ·
    have b6 := gb_nn b6
    refine G.go hX 13 (apW (gu ct 18 0) (gu ed 18 e) q0 q1 q2 q3 q4 q5 q6 q7 q8 q9 q10 q11 q12 q13 q14 q15 q16 q17 q18 q19, 28, [(0, gr 36), (1, gi 18), (2, gi e), (3, gi who)], [gi 18, gr 39]) rfl ?_ ?_
    · refine ⟨?_, ?_, trivial⟩
      · omega
      · omega
    refine g_aald hX 58 rfl rfl (by omega) rfl ?_
    refine G.go hX 14 (apW (gu (gu ct 18 0) 18 (((gu ct 18 0) 18) + 1)) (gu ed 18 e) q0 q1 q2 q3 q4 q5 q6 q7 q8 q9 q10 q11 q12 q13 q14 q15 q16 q17 (gu q18 ((gu ct 18 0) 18) who) q19, 47, [(0, gr 36), (1, gi 18), (2, gi e), (3, gi who)], []) rfl ?_ ?_
    · refine ⟨?_, ?_, ?_, ?_, trivial⟩
      · omega
      · first | (have := hct 18; have := hl b6; omega) | (rw [gu_s]; omega)
      · omega
      · omega
    exact g_vret hX hE rfl ⟨_, _, 0, rfl, by rw [gu_s], by rw [gb_f b6, if_neg (by omega)], by (funext j; by_cases e9 : j = 18; (rw [e9, gu_s, gu_s]); rw [gu_n _ _ e9, gu_n _ _ e9, gu_n _ _ e9]), rfl⟩
set_option maxHeartbeats 4000000 in
set_option maxRecDepth 100000 in
theorem c_X0_add_19 (l : Launch) (D : va_G) (cA : Nat → ClassId) (ct : Int → Int) (ed : Int → Int) (q0 : Int → Int) (q1 : Int → Int) (q2 : Int → Int) (q3 : Int → Int) (q4 : Int → Int) (q5 : Int → Int) (q6 : Int → Int) (q7 : Int → Int) (q8 : Int → Int) (q9 : Int → Int) (q10 : Int → Int) (q11 : Int → Int) (q12 : Int → Int) (q13 : Int → Int) (q14 : Int → Int) (q15 : Int → Int) (q16 : Int → Int) (q17 : Int → Int) (q18 : Int → Int) (q19 : Int → Int) (e : Int) (who : Int) (hct : ∀ q : Int, 0 ≤ ct q ∧ ct q ≤ 6) (hed : ∀ q : Int, inR (ed q)) (he : inR e) (hl : gLt ct ed 19 e → ct 19 < 6) :
    gC l D cA yX0_add mX0_add none 0 0 [gr 36, gi 19, gi e, gi who] (apW ct ed q0 q1 q2 q3 q4 q5 q6 q7 q8 q9 q10 q11 q12 q13 q14 q15 q16 q17 q18 q19) (fun r9 w9 => ∃ (ct2 : Int → Int) (ed2 : Int → Int) (k2 : Int), r9 = none ∧ w9 = apW ct2 ed2 q0 q1 q2 q3 q4 q5 q6 q7 q8 q9 q10 q11 q12 q13 q14 q15 q16 q17 q18 (gu q19 k2 who) ∧ (k2 = (if gb (gLt ct ed 19 e) = 1 then ct 19 else 0)) ∧ (ct2 = gu ct 19 (k2 + 1)) ∧ (ed2 = gu ed 19 e)) := by
  refine gC_of rfl kX0_add rfl rfl (Nat.le_of_ble_eq_true rfl) (fun X ad hX hE => ?_)
  refine G.go hX 3 (apW ct ed q0 q1 q2 q3 q4 q5 q6 q7 q8 q9 q10 q11 q12 q13 q14 q15 q16 q17 q18 q19, 3, [(0, gr 36), (1, gi 19), (2, gi e), (3, gi who)], [gi e, gi 19, gr 36]) rfl trivial ?_
  refine G.callV (av := [gi 19, gi e]) (o := 36) (st := []) hX rfl (fun l D cA => c_X0_isLatest l D cA ct ed q0 q1 q2 q3 q4 q5 q6 q7 q8 q9 q10 q11 q12 q13 q14 q15 q16 q17 q18 q19 19 e (by first | assumption | omega) (by first | assumption | omega) (by first | assumption | omega) (by first | assumption | omega)) (by decide +kernel) aX0_isLatest rfl rfl rfl ⟨rfl, rfl⟩ (by decide) (Nat.le_of_ble_eq_true rfl) [0, 1, 2, 3, 4, 5, 6, 7, 8, 9, 10, 11, 12, 13, 14, 15, 16, 17, 18, 19, 20, 21, 22, 23] [] [] rfl rfl rfl (fun r w' hp => ?_)
  obtain ⟨rfl, rfl⟩ := hp
  show G X mX0_add ad 0 0 (apW ct ed q0 q1 q2 q3 q4 q5 q6 q7 q8 q9 q10 q11 q12 q13 q14 q15 q16 q17 q18 q19, 6, [(0, gr 36), (1, gi 19), (2, gi e), (3, gi who)], [gi (gb (gLt ct ed 19 e))])
  refine g_if_ne hX 23 rfl rfl (gb_r _) (fun b6 => ?_) (fun b6 => ?_)
  ·
    have b6 := gb_n0 b6
    refine G.go hX 3 (apW ct ed q0 q1 q2 q3 q4 q5 q6 q7 q8 q9 q10 q11 q12 q13 q14 q15 q16 q17 q18 q19, 28, [(0, gr 36), (1, gi 19), (2, gi e), (3, gi who)], [gi 19, gr 39]) rfl trivial ?_
    refine g_aald hX 59 rfl rfl (by omega) rfl ?_
    refine G.go hX 14 (apW (gu ct 19 ((ct 19) + 1)) ed q0 q1 q2 q3 q4 q5 q6 q7 q8 q9 q10 q11 q12 q13 q14 q15 q16 q17 q18 (gu q19 (ct 19) who), 47, [(0, gr 36), (1, gi 19), (2, gi e), (3, gi who)], []) rfl ?_ ?_
    · refine ⟨?_, ?_, ?_, ?_, trivial⟩
      · omega
      · first | (have := hct 19; have := hl b6; omega) | (rw [gu_s]; omega)
      · omega
      · omega
    exact g_vret hX hE rfl ⟨_, ed, ct 19, rfl, rfl, by rw [gb_t b6, if_pos rfl], rfl, by (funext j; by_cases e9 : j = 19; (rw [e9, gu_s]; exact b6.2); rw [gu_n _ _ e9])⟩
  ·
    have b6 := gb_nn b6
    refine G.go hX 13 (apW (gu ct 19 0) (gu ed 19 e) q0 q1 q2 q3 q4 q5 q6 q7 q8 q9 q10 q11 q12 q13 q14 q15 q16 q17 q18 q19, 28, [(0, gr 36), (1, gi 19), (2, gi e), (3, gi who)], [gi 19, gr 39]) rfl ?_ ?_
    · refine ⟨?_, ?_, trivial⟩
      · omega
      · omega
    refine g_aald hX 59 rfl rfl (by omega) rfl ?_
    refine G.go hX 14 (apW (gu (gu ct 19 0) 19 (((gu ct 19 0) 19) + 1)) (gu ed 19 e) q0 q1 q2 q3 q4 q5 q6 q7 q8 q9 q10 q11 q12 q13 q14 q15 q16 q17 q18 (gu q19 ((gu ct 19 0) 19) who), 47, [(0, gr 36), (1, gi 19), (2, gi e), (3, gi who)], []) rfl ?_ ?_
    · refine ⟨?_, ?_, ?_, ?_, trivial⟩
      · omega
      · first | (have := hct 19; have := hl b6; omega) | (rw [gu_s]; omega)
      · omega
      · omega
    exact g_vret hX hE rfl ⟨_, _, 0, rfl, by rw [gu_s], by rw [gb_f b6, if_neg (by omega)], by (funext j; by_cases e9 : j = 19; (rw [e9, gu_s, gu_s]); rw [gu_n _ _ e9, gu_n _ _ e9, gu_n _ _ e9]), rfl⟩
