def ppq (z : Int) : Option Nat := some (40 + z.toNat)
/-- edition e is the latest one of page p that was approved of -/
def gLt (ct ed : Int → Int) (p e : Int) : Prop := 0 < ct p ∧ ed p = e
abbrev apW (ct ed q0 q1 q2 q3 q4 q5 q6 q7 q8 q9 q10 q11 q12 q13 q14 q15 q16 q17 q18 q19 : Int → Int) : gW := [(36, gob 1 [gr 37, gr 38, gr 39]), (37, gai 0 20 ct), (38, gai 0 20 ed), (39, gar 2 20 ppq), (40, gai 0 6 q0), (41, gai 0 6 q1), (42, gai 0 6 q2), (43, gai 0 6 q3), (44, gai 0 6 q4), (45, gai 0 6 q5), (46, gai 0 6 q6), (47, gai 0 6 q7), (48, gai 0 6 q8), (49, gai 0 6 q9), (50, gai 0 6 q10), (51, gai 0 6 q11), (52, gai 0 6 q12), (53, gai 0 6 q13), (54, gai 0 6 q14), (55, gai 0 6 q15), (56, gai 0 6 q16), (57, gai 0 6 q17), (58, gai 0 6 q18), (59, gai 0 6 q19)]
abbrev apX (ct ed : Int → Int) (ppl : Int → Int → Int) : gW := apW ct ed (ppl 0) (ppl 1) (ppl 2) (ppl 3) (ppl 4) (ppl 5) (ppl 6) (ppl 7) (ppl 8) (ppl 9) (ppl 10) (ppl 11) (ppl 12) (ppl 13) (ppl 14) (ppl 15) (ppl 16) (ppl 17) (ppl 18) (ppl 19)
set_option maxHeartbeats 4000000 in
set_option maxRecDepth 100000 in
theorem c_X0_isOlder (l : Launch) (D : va_G) (cA : Nat → ClassId) (ct : Int → Int) (ed : Int → Int) (q0 : Int → Int) (q1 : Int → Int) (q2 : Int → Int) (q3 : Int → Int) (q4 : Int → Int) (q5 : Int → Int) (q6 : Int → Int) (q7 : Int → Int) (q8 : Int → Int) (q9 : Int → Int) (q10 : Int → Int) (q11 : Int → Int) (q12 : Int → Int) (q13 : Int → Int) (q14 : Int → Int) (q15 : Int → Int) (q16 : Int → Int) (q17 : Int → Int) (q18 : Int → Int) (q19 : Int → Int) (p : Int) (e : Int) (hp : 0 ≤ p ∧ p < 20) (hct : ∀ q : Int, 0 ≤ ct q ∧ ct q ≤ 6) (hed : ∀ q : Int, inR (ed q)) (he : inR e) :
    gC l D cA yX0_isOlder mX0_isOlder (some .boolean) 0 0 [gr 36, gi p, gi e] (apW ct ed q0 q1 q2 q3 q4 q5 q6 q7 q8 q9 q10 q11 q12 q13 q14 q15 q16 q17 q18 q19) (fun r9 w9 => r9 = some (gi (gb (0 < ct p ∧ e < ed p))) ∧ w9 = apW ct ed q0 q1 q2 q3 q4 q5 q6 q7 q8 q9 q10 q11 q12 q13 q14 q15 q16 q17 q18 q19) := by
  refine gC_of rfl kX0_isOlder rfl rfl (Nat.le_of_ble_eq_true rfl) (fun X ad hX hE => ?_)
  refine G.go hX 4 (apW ct ed q0 q1 q2 q3 q4 q5 q6 q7 q8 q9 q10 q11 q12 q13 q14 q15 q16 q17 q18 q19, 6, [(0, gr 36), (1, gi p), (2, gi e)], [gi (ct p)]) rfl ?_ ?_
  · refine ⟨?_, trivial⟩
    · omega
  refine g_if_le hX 23 rfl rfl (by first | exact ⟨by have := hct p; omega, by have := hct p; omega⟩ | exact hed _ | assumption | exact ⟨by omega, by omega⟩) (fun b6 => ?_) (fun b6 => ?_)
  ·
    refine G.go hX 1 (apW ct ed q0 q1 q2 q3 q4 q5 q6 q7 q8 q9 q10 q11 q12 q13 q14 q15 q16 q17 q18 q19, 24, [(0, gr 36), (1, gi p), (2, gi e)], [gi 0]) rfl trivial ?_
    exact g_zret hX hE rfl (Or.inl rfl) ⟨(congrArg (fun z => some (gi z)) (gb_f (by omega)).symm), rfl⟩
  ·
    refine G.go hX 5 (apW ct ed q0 q1 q2 q3 q4 q5 q6 q7 q8 q9 q10 q11 q12 q13 q14 q15 q16 q17 q18 q19, 16, [(0, gr 36), (1, gi p), (2, gi e)], [gi (ed p), gi e]) rfl ?_ ?_
    · refine ⟨?_, trivial⟩
      · omega
    refine g_icmp_ge hX 23 rfl rfl (by first | exact ⟨by have := hct p; omega, by have := hct p; omega⟩ | exact hed _ | assumption | exact ⟨by omega, by omega⟩) (by first | exact ⟨by have := hct p; omega, by have := hct p; omega⟩ | exact hed _ | assumption | exact ⟨by omega, by omega⟩) (fun b16 => ?_) (fun b16 => ?_)
    ·
      refine G.go hX 1 (apW ct ed q0 q1 q2 q3 q4 q5 q6 q7 q8 q9 q10 q11 q12 q13 q14 q15 q16 q17 q18 q19, 24, [(0, gr 36), (1, gi p), (2, gi e)], [gi 0]) rfl trivial ?_
      exact g_zret hX hE rfl (Or.inl rfl) ⟨(congrArg (fun z => some (gi z)) (gb_f (by omega)).symm), rfl⟩
    ·
      refine G.go hX 2 (apW ct ed q0 q1 q2 q3 q4 q5 q6 q7 q8 q9 q10 q11 q12 q13 q14 q15 q16 q17 q18 q19, 24, [(0, gr 36), (1, gi p), (2, gi e)], [gi 1]) rfl trivial ?_
      exact g_zret hX hE rfl (Or.inr rfl) ⟨(congrArg (fun z => some (gi z)) (gb_t (by omega)).symm), rfl⟩
set_option maxHeartbeats 4000000 in
set_option maxRecDepth 100000 in
theorem c_X0_isLatest (l : Launch) (D : va_G) (cA : Nat → ClassId) (ct : Int → Int) (ed : Int → Int) (q0 : Int → Int) (q1 : Int → Int) (q2 : Int → Int) (q3 : Int → Int) (q4 : Int → Int) (q5 : Int → Int) (q6 : Int → Int) (q7 : Int → Int) (q8 : Int → Int) (q9 : Int → Int) (q10 : Int → Int) (q11 : Int → Int) (q12 : Int → Int) (q13 : Int → Int) (q14 : Int → Int) (q15 : Int → Int) (q16 : Int → Int) (q17 : Int → Int) (q18 : Int → Int) (q19 : Int → Int) (p : Int) (e : Int) (hp : 0 ≤ p ∧ p < 20) (hct : ∀ q : Int, 0 ≤ ct q ∧ ct q ≤ 6) (hed : ∀ q : Int, inR (ed q)) (he : inR e) :
    gC l D cA yX0_isLatest mX0_isLatest (some .boolean) 0 0 [gr 36, gi p, gi e] (apW ct ed q0 q1 q2 q3 q4 q5 q6 q7 q8 q9 q10 q11 q12 q13 q14 q15 q16 q17 q18 q19) (fun r9 w9 => r9 = some (gi (gb (gLt ct ed p e))) ∧ w9 = apW ct ed q0 q1 q2 q3 q4 q5 q6 q7 q8 q9 q10 q11 q12 q13 q14 q15 q16 q17 q18 q19) := by
  refine gC_of rfl kX0_isLatest rfl rfl (Nat.le_of_ble_eq_true rfl) (fun X ad hX hE => ?_)
  refine G.go hX 4 (apW ct ed q0 q1 q2 q3 q4 q5 q6 q7 q8 q9 q10 q11 q12 q13 q14 q15 q16 q17 q18 q19, 6, [(0, gr 36), (1, gi p), (2, gi e)], [gi (ct p)]) rfl ?_ ?_
  · refine ⟨?_, trivial⟩
    · omega
  refine g_if_le hX 23 rfl rfl (by first | exact ⟨by have := hct p; omega, by have := hct p; omega⟩ | exact hed _ | assumption | exact ⟨by omega, by omega⟩) (fun b6 => ?_) (fun b6 => ?_)
  ·
    refine G.go hX 1 (apW ct ed q0 q1 q2 q3 q4 q5 q6 q7 q8 q9 q10 q11 q12 q13 q14 q15 q16 q17 q18 q19, 24, [(0, gr 36), (1, gi p), (2, gi e)], [gi 0]) rfl trivial ?_
    exact g_zret hX hE rfl (Or.inl rfl) ⟨(congrArg (fun z => some (gi z)) (gb_f (by unfold gLt; omega)).symm), rfl⟩
  ·
    refine G.go hX 5 (apW ct ed q0 q1 q2 q3 q4 q5 q6 q7 q8 q9 q10 q11 q12 q13 q14 q15 q16 q17 q18 q19, 16, [(0, gr 36), (1, gi p), (2, gi e)], [gi e, gi (ed p)]) rfl ?_ ?_
    · refine ⟨?_, trivial⟩
      · omega
    refine g_icmp_ne hX 23 rfl rfl (by first | exact ⟨by have := hct p; omega, by have := hct p; omega⟩ | exact hed _ | assumption | exact ⟨by omega, by omega⟩) (by first | exact ⟨by have := hct p; omega, by have := hct p; omega⟩ | exact hed _ | assumption | exact ⟨by omega, by omega⟩) (fun b16 => ?_) (fun b16 => ?_)
    ·
      refine G.go hX 1 (apW ct ed q0 q1 q2 q3 q4 q5 q6 q7 q8 q9 q10 q11 q12 q13 q14 q15 q16 q17 q18 q19, 24, [(0, gr 36), (1, gi p), (2, gi e)], [gi 0]) rfl trivial ?_
      exact g_zret hX hE rfl (Or.inl rfl) ⟨(congrArg (fun z => some (gi z)) (gb_f (by unfold gLt; omega)).symm), rfl⟩
    ·
      refine G.go hX 2 (apW ct ed q0 q1 q2 q3 q4 q5 q6 q7 q8 q9 q10 q11 q12 q13 q14 q15 q16 q17 q18 q19, 24, [(0, gr 36), (1, gi p), (2, gi e)], [gi 1]) rfl trivial ?_
      exact g_zret hX hE rfl (Or.inr rfl) ⟨(congrArg (fun z => some (gi z)) (gb_t (by unfold gLt; omega)).symm), rfl⟩
set_option maxHeartbeats 4000000 in
set_option maxRecDepth 100000 in
theorem c_X0_isFull (l : Launch) (D : va_G) (cA : Nat → ClassId) (ct : Int → Int) (ed : Int → Int) (q0 : Int → Int) (q1 : Int → Int) (q2 : Int → Int) (q3 : Int → Int) (q4 : Int → Int) (q5 : Int → Int) (q6 : Int → Int) (q7 : Int → Int) (q8 : Int → Int) (q9 : Int → Int) (q10 : Int → Int) (q11 : Int → Int) (q12 : Int → Int) (q13 : Int → Int) (q14 : Int → Int) (q15 : Int → Int) (q16 : Int → Int) (q17 : Int → Int) (q18 : Int → Int) (q19 : Int → Int) (p : Int) (e : Int) (hp : 0 ≤ p ∧ p < 20) (hct : ∀ q : Int, 0 ≤ ct q ∧ ct q ≤ 6) (hed : ∀ q : Int, inR (ed q)) (he : inR e) :
    gC l D cA yX0_isFull mX0_isFull (some .boolean) 0 0 [gr 36, gi p, gi e] (apW ct ed q0 q1 q2 q3 q4 q5 q6 q7 q8 q9 q10 q11 q12 q13 q14 q15 q16 q17 q18 q19) (fun r9 w9 => r9 = some (gi (gb (gLt ct ed p e ∧ 6 ≤ ct p))) ∧ w9 = apW ct ed q0 q1 q2 q3 q4 q5 q6 q7 q8 q9 q10 q11 q12 q13 q14 q15 q16 q17 q18 q19) := by
  refine gC_of rfl kX0_isFull rfl rfl (Nat.le_of_ble_eq_true rfl) (fun X ad hX hE => ?_)
  refine G.go hX 3 (apW ct ed q0 q1 q2 q3 q4 q5 q6 q7 q8 q9 q10 q11 q12 q13 q14 q15 q16 q17 q18 q19, 3, [(0, gr 36), (1, gi p), (2, gi e)], [gi e, gi p, gr 36]) rfl trivial ?_
  refine G.callV (av := [gi p, gi e]) (o := 36) (st := []) hX rfl (fun l D cA => c_X0_isLatest l D cA ct ed q0 q1 q2 q3 q4 q5 q6 q7 q8 q9 q10 q11 q12 q13 q14 q15 q16 q17 q18 q19 p e (by first | assumption | omega) (by first | assumption | omega) (by first | assumption | omega) (by first | assumption | omega)) (by decide +kernel) aX0_isLatest rfl rfl rfl ⟨rfl, rfl⟩ (by decide) (Nat.le_of_ble_eq_true rfl) [0, 1, 2, 3, 4, 5, 6, 7, 8, 9, 10, 11, 12, 13, 14, 15, 16, 17, 18, 19, 20, 21, 22, 23] [] [] rfl rfl rfl (fun r w' hp => ?_)
  obtain ⟨rfl, rfl⟩ := hp
  show G X mX0_isFull ad 0 0 (apW ct ed q0 q1 q2 q3 q4 q5 q6 q7 q8 q9 q10 q11 q12 q13 q14 q15 q16 q17 q18 q19, 6, [(0, gr 36), (1, gi p), (2, gi e)], [gi (gb (gLt ct ed p e))])
  refine g_if_eq hX 24 rfl rfl (gb_r _) (fun b6 => ?_) (fun b6 => ?_)
  ·
    have b6 := gb_0.mp b6
    refine G.go hX 1 (apW ct ed q0 q1 q2 q3 q4 q5 q6 q7 q8 q9 q10 q11 q12 q13 q14 q15 q16 q17 q18 q19, 25, [(0, gr 36), (1, gi p), (2, gi e)], [gi 0]) rfl trivial ?_
    exact g_zret hX hE rfl (Or.inl rfl) ⟨(congrArg (fun z => some (gi z)) (gb_f (by first | exact fun h9 => b6 h9.1 | exact ⟨b6, by omega⟩ | (intro h9; omega))).symm), rfl⟩
  ·
    have b6 := gb_n0 b6
    refine G.go hX 5 (apW ct ed q0 q1 q2 q3 q4 q5 q6 q7 q8 q9 q10 q11 q12 q13 q14 q15 q16 q17 q18 q19, 17, [(0, gr 36), (1, gi p), (2, gi e)], [gi 6, gi (ct p)]) rfl ?_ ?_
    · refine ⟨?_, trivial⟩
      · omega
    refine g_icmp_lt hX 24 rfl rfl (by first | exact ⟨by have := hct p; omega, by have := hct p; omega⟩ | exact hed _ | assumption | exact ⟨by omega, by omega⟩) (by first | exact ⟨by have := hct p; omega, by have := hct p; omega⟩ | exact hed _ | assumption | exact ⟨by omega, by omega⟩) (fun b17 => ?_) (fun b17 => ?_)
    ·
      refine G.go hX 1 (apW ct ed q0 q1 q2 q3 q4 q5 q6 q7 q8 q9 q10 q11 q12 q13 q14 q15 q16 q17 q18 q19, 25, [(0, gr 36), (1, gi p), (2, gi e)], [gi 0]) rfl trivial ?_
      exact g_zret hX hE rfl (Or.inl rfl) ⟨(congrArg (fun z => some (gi z)) (gb_f (by first | exact fun h9 => b6 h9.1 | exact ⟨b6, by omega⟩ | (intro h9; omega))).symm), rfl⟩
    ·
      refine G.go hX 2 (apW ct ed q0 q1 q2 q3 q4 q5 q6 q7 q8 q9 q10 q11 q12 q13 q14 q15 q16 q17 q18 q19, 25, [(0, gr 36), (1, gi p), (2, gi e)], [gi 1]) rfl trivial ?_
      exact g_zret hX hE rfl (Or.inr rfl) ⟨(congrArg (fun z => some (gi z)) (gb_t (by first | exact fun h9 => b6 h9.1 | exact ⟨b6, by omega⟩ | (intro h9; omega))).symm), rfl⟩
set_option maxHeartbeats 4000000 in
set_option maxRecDepth 100000 in
theorem c_X0_has_0 (l : Launch) (D : va_G) (cA : Nat → ClassId) (ct : Int → Int) (ed : Int → Int) (q0 : Int → Int) (q1 : Int → Int) (q2 : Int → Int) (q3 : Int → Int) (q4 : Int → Int) (q5 : Int → Int) (q6 : Int → Int) (q7 : Int → Int) (q8 : Int → Int) (q9 : Int → Int) (q10 : Int → Int) (q11 : Int → Int) (q12 : Int → Int) (q13 : Int → Int) (q14 : Int → Int) (q15 : Int → Int) (q16 : Int → Int) (q17 : Int → Int) (q18 : Int → Int) (q19 : Int → Int) (e : Int) (who : Int) (hct : ∀ q : Int, 0 ≤ ct q ∧ ct q ≤ 6) (hed : ∀ q : Int, inR (ed q)) (he : inR e) (hq : ∀ j : Int, inR (q0 j)) (hw : inR who) :
    gC l D cA yX0_has mX0_has (some .boolean) 0 0 [gr 36, gi 0, gi e, gi who] (apW ct ed q0 q1 q2 q3 q4 q5 q6 q7 q8 q9 q10 q11 q12 q13 q14 q15 q16 q17 q18 q19) (fun r9 w9 => r9 = some (gi (gb (gLt ct ed 0 e ∧ ∃ j : Int, 0 ≤ j ∧ j < ct 0 ∧ q0 j = who))) ∧ w9 = apW ct ed q0 q1 q2 q3 q4 q5 q6 q7 q8 q9 q10 q11 q12 q13 q14 q15 q16 q17 q18 q19) := by
  refine gC_of rfl kX0_has rfl rfl (Nat.le_of_ble_eq_true rfl) (fun X ad hX hE => ?_)
  refine G.go hX 3 (apW ct ed q0 q1 q2 q3 q4 q5 q6 q7 q8 q9 q10 q11 q12 q13 q14 q15 q16 q17 q18 q19, 3, [(0, gr 36), (1, gi 0), (2, gi e), (3, gi who)], [gi e, gi 0, gr 36]) rfl trivial ?_
  refine G.callV (av := [gi 0, gi e]) (o := 36) (st := []) hX rfl (fun l D cA => c_X0_isLatest l D cA ct ed q0 q1 q2 q3 q4 q5 q6 q7 q8 q9 q10 q11 q12 q13 q14 q15 q16 q17 q18 q19 0 e (by first | assumption | omega) (by first | assumption | omega) (by first | assumption | omega) (by first | assumption | omega)) (by decide +kernel) aX0_isLatest rfl rfl rfl ⟨rfl, rfl⟩ (by decide) (Nat.le_of_ble_eq_true rfl) [0, 1, 2, 3, 4, 5, 6, 7, 8, 9, 10, 11, 12, 13, 14, 15, 16, 17, 18, 19, 20, 21, 22, 23] [] [] rfl rfl rfl (fun r w' hp => ?_)
  obtain ⟨rfl, rfl⟩ := hp
  show G X mX0_has ad 0 0 (apW ct ed q0 q1 q2 q3 q4 q5 q6 q7 q8 q9 q10 q11 q12 q13 q14 q15 q16 q17 q18 q19, 6, [(0, gr 36), (1, gi 0), (2, gi e), (3, gi who)], [gi (gb (gLt ct ed 0 e))])
  refine g_if_ne hX 11 rfl rfl (gb_r _) (fun b6 => ?_) (fun b6 => ?_)
  ·
    have b6 := gb_n0 b6
    refine G.go hX 2 (apW ct ed q0 q1 q2 q3 q4 q5 q6 q7 q8 q9 q10 q11 q12 q13 q14 q15 q16 q17 q18 q19, 14, [(0, gr 36), (1, gi 0), (2, gi e), (3, gi who), (4, gi 0)], []) rfl trivial ?_
    have lp14 : ∀ (n : Nat) (i : Int), (0 ≤ i ∧ i ≤ 6) → (∀ j : Int, 0 ≤ j → j < i → q0 j ≠ who) → (6 - i).toNat < n → G X mX0_has ad 0 0 (apW ct ed q0 q1 q2 q3 q4 q5 q6 q7 q8 q9 q10 q11 q12 q13 q14 q15 q16 q17 q18 q19, 14, [(0, gr 36), (1, gi 0), (2, gi e), (3, gi who), (4, gi i)], []) := by
      intro n
      induction n with
      | zero => intro i hi hno hm9; exact absurd hm9 (Nat.not_lt_zero _)
      | succ n ih14 =>
        intro i hi hno hm14
        refine G.go hX 5 (apW ct ed q0 q1 q2 q3 q4 q5 q6 q7 q8 q9 q10 q11 q12 q13 q14 q15 q16 q17 q18 q19, 22, [(0, gr 36), (1, gi 0), (2, gi e), (3, gi who), (4, gi i)], [gi (ct 0), gi i]) rfl ?_ ?_
        · refine ⟨?_, trivial⟩
          · omega
        refine g_icmp_ge hX 53 rfl rfl ⟨by have := hct 0; omega, by have := hct 0; omega⟩ ⟨by have := hct 0; omega, by have := hct 0; omega⟩ (fun b22 => ?_) (fun b22 => ?_)
        ·
          refine G.go hX 1 (apW ct ed q0 q1 q2 q3 q4 q5 q6 q7 q8 q9 q10 q11 q12 q13 q14 q15 q16 q17 q18 q19, 54, [(0, gr 36), (1, gi 0), (2, gi e), (3, gi who), (4, gi i)], [gi 0]) rfl trivial ?_
          exact g_zret hX hE rfl (Or.inl rfl) ⟨(congrArg (fun z => some (gi z)) (gb_f (by exact fun ⟨_, j, h1, h2, h3⟩ => hno j h1 (by have := hct 0; omega) h3)).symm), rfl⟩
        ·
          refine G.go hX 2 (apW ct ed q0 q1 q2 q3 q4 q5 q6 q7 q8 q9 q10 q11 q12 q13 q14 q15 q16 q17 q18 q19, 29, [(0, gr 36), (1, gi 0), (2, gi e), (3, gi who), (4, gi i)], [gi 6, gi i]) rfl trivial ?_
          refine g_icmp_ge hX 53 rfl rfl ⟨by omega, by omega⟩ ⟨by omega, by omega⟩ (fun b29 => ?_) (fun b29 => ?_)
          ·
            refine G.go hX 1 (apW ct ed q0 q1 q2 q3 q4 q5 q6 q7 q8 q9 q10 q11 q12 q13 q14 q15 q16 q17 q18 q19, 54, [(0, gr 36), (1, gi 0), (2, gi e), (3, gi who), (4, gi i)], [gi 0]) rfl trivial ?_
            exact g_zret hX hE rfl (Or.inl rfl) ⟨(congrArg (fun z => some (gi z)) (gb_f (by exact fun ⟨_, j, h1, h2, h3⟩ => hno j h1 (by have := hct 0; omega) h3)).symm), rfl⟩
          ·
            refine G.go hX 3 (apW ct ed q0 q1 q2 q3 q4 q5 q6 q7 q8 q9 q10 q11 q12 q13 q14 q15 q16 q17 q18 q19, 37, [(0, gr 36), (1, gi 0), (2, gi e), (3, gi who), (4, gi i)], [gi 0, gr 39]) rfl trivial ?_
            refine g_aald hX 40 rfl rfl (by omega) rfl ?_
            refine G.go hX 3 (apW ct ed q0 q1 q2 q3 q4 q5 q6 q7 q8 q9 q10 q11 q12 q13 q14 q15 q16 q17 q18 q19, 42, [(0, gr 36), (1, gi 0), (2, gi e), (3, gi who), (4, gi i)], [gi who, gi (q0 i)]) rfl ?_ ?_
            · refine ⟨?_, trivial⟩
              · omega
            refine g_icmp_ne hX 47 rfl rfl (by first | exact hq _ | assumption) (by first | exact hq _ | assumption) (fun b42 => ?_) (fun b42 => ?_)
            ·
              refine G.go hX 2 (apW ct ed q0 q1 q2 q3 q4 q5 q6 q7 q8 q9 q10 q11 q12 q13 q14 q15 q16 q17 q18 q19, 14, [(0, gr 36), (1, gi 0), (2, gi e), (3, gi who), (4, gi (i + 1))], []) rfl trivial ?_
              exact ih14 (i + 1) (by omega) (by intro j h1 h2; by_cases e9 : j = i; (subst e9; omega); exact hno j h1 (by omega)) (by omega)
            ·
              refine G.go hX 1 (apW ct ed q0 q1 q2 q3 q4 q5 q6 q7 q8 q9 q10 q11 q12 q13 q14 q15 q16 q17 q18 q19, 46, [(0, gr 36), (1, gi 0), (2, gi e), (3, gi who), (4, gi i)], [gi 1]) rfl trivial ?_
              exact g_zret hX hE rfl (Or.inr rfl) ⟨(congrArg (fun z => some (gi z)) (gb_t (by exact ⟨b6, i, by omega, by omega, by omega⟩)).symm), rfl⟩
    exact lp14 _ 0 (by omega) (by intro j h1 h2; omega) (Nat.lt_succ_self _)
  ·
    have b6 := gb_nn b6
    refine G.go hX 1 (apW ct ed q0 q1 q2 q3 q4 q5 q6 q7 q8 q9 q10 q11 q12 q13 q14 q15 q16 q17 q18 q19, 10, [(0, gr 36), (1, gi 0), (2, gi e), (3, gi who)], [gi 0]) rfl trivial ?_
    exact g_zret hX hE rfl (Or.inl rfl) ⟨(congrArg (fun z => some (gi z)) (gb_f (by exact fun h9 => b6 h9.1)).symm), rfl⟩
set_option maxHeartbeats 4000000 in
set_option maxRecDepth 100000 in
theorem c_X0_has_1 (l : Launch) (D : va_G) (cA : Nat → ClassId) (ct : Int → Int) (ed : Int → Int) (q0 : Int → Int) (q1 : Int → Int) (q2 : Int → Int) (q3 : Int → Int) (q4 : Int → Int) (q5 : Int → Int) (q6 : Int → Int) (q7 : Int → Int) (q8 : Int → Int) (q9 : Int → Int) (q10 : Int → Int) (q11 : Int → Int) (q12 : Int → Int) (q13 : Int → Int) (q14 : Int → Int) (q15 : Int → Int) (q16 : Int → Int) (q17 : Int → Int) (q18 : Int → Int) (q19 : Int → Int) (e : Int) (who : Int) (hct : ∀ q : Int, 0 ≤ ct q ∧ ct q ≤ 6) (hed : ∀ q : Int, inR (ed q)) (he : inR e) (hq : ∀ j : Int, inR (q1 j)) (hw : inR who) :
    gC l D cA yX0_has mX0_has (some .boolean) 0 0 [gr 36, gi 1, gi e, gi who] (apW ct ed q0 q1 q2 q3 q4 q5 q6 q7 q8 q9 q10 q11 q12 q13 q14 q15 q16 q17 q18 q19) (fun r9 w9 => r9 = some (gi (gb (gLt ct ed 1 e ∧ ∃ j : Int, 0 ≤ j ∧ j < ct 1 ∧ q1 j = who))) ∧ w9 = apW ct ed q0 q1 q2 q3 q4 q5 q6 q7 q8 q9 q10 q11 q12 q13 q14 q15 q16 q17 q18 q19) := by
  refine gC_of rfl kX0_has rfl rfl (Nat.le_of_ble_eq_true rfl) (fun X ad hX hE => ?_)
  refine G.go hX 3 (apW ct ed q0 q1 q2 q3 q4 q5 q6 q7 q8 q9 q10 q11 q12 q13 q14 q15 q16 q17 q18 q19, 3, [(0, gr 36), (1, gi 1), (2, gi e), (3, gi who)], [gi e, gi 1, gr 36]) rfl trivial ?_
  refine G.callV (av := [gi 1, gi e]) (o := 36) (st := []) hX rfl (fun l D cA => c_X0_isLatest l D cA ct ed q0 q1 q2 q3 q4 q5 q6 q7 q8 q9 q10 q11 q12 q13 q14 q15 q16 q17 q18 q19 1 e (by first | assumption | omega) (by first | assumption | omega) (by first | assumption | omega) (by first | assumption | omega)) (by decide +kernel) aX0_isLatest rfl rfl rfl ⟨rfl, rfl⟩ (by decide) (Nat.le_of_ble_eq_true rfl) [0, 1, 2, 3, 4, 5, 6, 7, 8, 9, 10, 11, 12, 13, 14, 15, 16, 17, 18, 19, 20, 21, 22, 23] [] [] rfl rfl rfl (fun r w' hp => ?_)
  obtain ⟨rfl, rfl⟩ := hp
  show G X mX0_has ad 0 0 (apW ct ed q0 q1 q2 q3 q4 q5 q6 q7 q8 q9 q10 q11 q12 q13 q14 q15 q16 q17 q18 q19, 6, [(0, gr 36), (1, gi 1), (2, gi e), (3, gi who)], [gi (gb (gLt ct ed 1 e))])
  refine g_if_ne hX 11 rfl rfl (gb_r _) (fun b6 => ?_) (fun b6 => ?_)
  ·
    have b6 := gb_n0 b6
    refine G.go hX 2 (apW ct ed q0 q1 q2 q3 q4 q5 q6 q7 q8 q9 q10 q11 q12 q13 q14 q15 q16 q17 q18 q19, 14, [(0, gr 36), (1, gi 1), (2, gi e), (3, gi who), (4, gi 0)], []) rfl trivial ?_
    have lp14 : ∀ (n : Nat) (i : Int), (0 ≤ i ∧ i ≤ 6) → (∀ j : Int, 0 ≤ j → j < i → q1 j ≠ who) → (6 - i).toNat < n → G X mX0_has ad 0 0 (apW ct ed q0 q1 q2 q3 q4 q5 q6 q7 q8 q9 q10 q11 q12 q13 q14 q15 q16 q17 q18 q19, 14, [(0, gr 36), (1, gi 1), (2, gi e), (3, gi who), (4, gi i)], []) := by
      intro n
      induction n with
      | zero => intro i hi hno hm9; exact absurd hm9 (Nat.not_lt_zero _)
      | succ n ih14 =>
        intro i hi hno hm14
        refine G.go hX 5 (apW ct ed q0 q1 q2 q3 q4 q5 q6 q7 q8 q9 q10 q11 q12 q13 q14 q15 q16 q17 q18 q19, 22, [(0, gr 36), (1, gi 1), (2, gi e), (3, gi who), (4, gi i)], [gi (ct 1), gi i]) rfl ?_ ?_
        · refine ⟨?_, trivial⟩
          · omega
        refine g_icmp_ge hX 53 rfl rfl ⟨by have := hct 1; omega, by have := hct 1; omega⟩ ⟨by have := hct 1; omega, by have := hct 1; omega⟩ (fun b22 => ?_) (fun b22 => ?_)
        ·
          refine G.go hX 1 (apW ct ed q0 q1 q2 q3 q4 q5 q6 q7 q8 q9 q10 q11 q12 q13 q14 q15 q16 q17 q18 q19, 54, [(0, gr 36), (1, gi 1), (2, gi e), (3, gi who), (4, gi i)], [gi 0]) rfl trivial ?_
          exact g_zret hX hE rfl (Or.inl rfl) ⟨(congrArg (fun z => some (gi z)) (gb_f (by exact fun ⟨_, j, h1, h2, h3⟩ => hno j h1 (by have := hct 1; omega) h3)).symm), rfl⟩
        ·
          refine G.go hX 2 (apW ct ed q0 q1 q2 q3 q4 q5 q6 q7 q8 q9 q10 q11 q12 q13 q14 q15 q16 q17 q18 q19, 29, [(0, gr 36), (1, gi 1), (2, gi e), (3, gi who), (4, gi i)], [gi 6, gi i]) rfl trivial ?_
          refine g_icmp_ge hX 53 rfl rfl ⟨by omega, by omega⟩ ⟨by omega, by omega⟩ (fun b29 => ?_) (fun b29 => ?_)
          ·
            refine G.go hX 1 (apW ct ed q0 q1 q2 q3 q4 q5 q6 q7 q8 q9 q10 q11 q12 q13 q14 q15 q16 q17 q18 q19, 54, [(0, gr 36), (1, gi 1), (2, gi e), (3, gi who), (4, gi i)], [gi 0]) rfl trivial ?_
            exact g_zret hX hE rfl (Or.inl rfl) ⟨(congrArg (fun z => some (gi z)) (gb_f (by exact fun ⟨_, j, h1, h2, h3⟩ => hno j h1 (by have := hct 1; omega) h3)).symm), rfl⟩
          ·
            refine G.go hX 3 (apW ct ed q0 q1 q2 q3 q4 q5 q6 q7 q8 q9 q10 q11 q12 q13 q14 q15 q16 q17 q18 q19, 37, [(0, gr 36), (1, gi 1), (2, gi e), (3, gi who), (4, gi i)], [gi 1, gr 39]) rfl trivial ?_
            refine g_aald hX 41 rfl rfl (by omega) rfl ?_
            refine G.go hX 3 (apW ct ed q0 q1 q2 q3 q4 q5 q6 q7 q8 q9 q10 q11 q12 q13 q14 q15 q16 q17 q18 q19, 42, [(0, gr 36), (1, gi 1), (2, gi e), (3, gi who), (4, gi i)], [gi who, gi (q1 i)]) rfl ?_ ?_
            · refine ⟨?_, trivial⟩
              · omega
            refine g_icmp_ne hX 47 rfl rfl (by first | exact hq _ | assumption) (by first | exact hq _ | assumption) (fun b42 => ?_) (fun b42 => ?_)
            ·
              refine G.go hX 2 (apW ct ed q0 q1 q2 q3 q4 q5 q6 q7 q8 q9 q10 q11 q12 q13 q14 q15 q16 q17 q18 q19, 14, [(0, gr 36), (1, gi 1), (2, gi e), (3, gi who), (4, gi (i + 1))], []) rfl trivial ?_
              exact ih14 (i + 1) (by omega) (by intro j h1 h2; by_cases e9 : j = i; (subst e9; omega); exact hno j h1 (by omega)) (by omega)
            ·
              refine G.go hX 1 (apW ct ed q0 q1 q2 q3 q4 q5 q6 q7 q8 q9 q10 q11 q12 q13 q14 q15 q16 q17 q18 q19, 46, [(0, gr 36), (1, gi 1), (2, gi e), (3, gi who), (4, gi i)], [gi 1]) rfl trivial ?_
              exact g_zret hX hE rfl (Or.inr rfl) ⟨(congrArg (fun z => some (gi z)) (gb_t (by exact ⟨b6, i, by omega, by omega, by omega⟩)).symm), rfl⟩
    exact lp14 _ 0 (by omega) (by intro j h1 h2; omega) (Nat.lt_succ_self _)
  ·
    have b6 := gb_nn b6
    refine G.go hX 1 (apW ct ed q0 q1 q2 q3 q4 q5 q6 q7 q8 q9 q10 q11 q12 q13 q14 q15 q16 q17 q18 q19, 10, [(0, gr 36), (1, gi 1), (2, gi e), (3, gi who)], [gi 0]) rfl trivial ?_
    exact g_zret hX hE rfl (Or.inl rfl) ⟨(congrArg (fun z => some (gi z)) (gb_f (by exact fun h9 => b6 h9.1)).symm), rfl⟩
set_option maxHeartbeats 4000000 in
set_option maxRecDepth 100000 in
theorem c_X0_has_2 (l : Launch) (D : va_G) (cA : Nat → ClassId) (ct : Int → Int) (ed : Int → Int) (q0 : Int → Int) (q1 : Int → Int) (q2 : Int → Int) (q3 : Int → Int) (q4 : Int → Int) (q5 : Int → Int) (q6 : Int → Int) (q7 : Int → Int) (q8 : Int → Int) (q9 : Int → Int) (q10 : Int → Int) (q11 : Int → Int) (q12 : Int → Int) (q13 : Int → Int) (q14 : Int → Int) (q15 : Int → Int) (q16 : Int → Int) (q17 : Int → Int) (q18 : Int → Int) (q19 : Int → Int) (e : Int) (who : Int) (hct : ∀ q : Int, 0 ≤ ct q ∧ ct q ≤ 6) (hed : ∀ q : Int, inR (ed q)) (he : inR e) (hq : ∀ j : Int, inR (q2 j)) (hw : inR who) :
    gC l D cA yX0_has mX0_has (some .boolean) 0 0 [gr 36, gi 2, gi e, gi who] (apW ct ed q0 q1 q2 q3 q4 q5 q6 q7 q8 q9 q10 q11 q12 q13 q14 q15 q16 q17 q18 q19) (fun r9 w9 => r9 = some (gi (gb (gLt ct ed 2 e ∧ ∃ j : Int, 0 ≤ j ∧ j < ct 2 ∧ q2 j = who))) ∧ w9 = apW ct ed q0 q1 q2 q3 q4 q5 q6 q7 q8 q9 q10 q11 q12 q13 q14 q15 q16 q17 q18 q19) := by
  refine gC_of rfl kX0_has rfl rfl (Nat.le_of_ble_eq_true rfl) (fun X ad hX hE => ?_)
  refine G.go hX 3 (apW ct ed q0 q1 q2 q3 q4 q5 q6 q7 q8 q9 q10 q11 q12 q13 q14 q15 q16 q17 q18 q19, 3, [(0, gr 36), (1, gi 2), (2, gi e), (3, gi who)], [gi e, gi 2, gr 36]) rfl trivial ?_
  refine G.callV (av := [gi 2, gi e]) (o := 36) (st := []) hX rfl (fun l D cA => c_X0_isLatest l D cA ct ed q0 q1 q2 q3 q4 q5 q6 q7 q8 q9 q10 q11 q12 q13 q14 q15 q16 q17 q18 q19 2 e (by first | assumption | omega) (by first | assumption | omega) (by first | assumption | omega) (by first | assumption | omega)) (by decide +kernel) aX0_isLatest rfl rfl rfl ⟨rfl, rfl⟩ (by decide) (Nat.le_of_ble_eq_true rfl) [0, 1, 2, 3, 4, 5, 6, 7, 8, 9, 10, 11, 12, 13, 14, 15, 16, 17, 18, 19, 20, 21, 22, 23] [] [] rfl rfl rfl (fun r w' hp => ?_)
  obtain ⟨rfl, rfl⟩ := hp
  show G X mX0_has ad 0 0 (apW ct ed q0 q1 q2 q3 q4 q5 q6 q7 q8 q9 q10 q11 q12 q13 q14 q15 q16 q17 q18 q19, 6, [(0, gr 36), (1, gi 2), (2, gi e), (3, gi who)], [gi (gb (gLt ct ed 2 e))])
  refine g_if_ne hX 11 rfl rfl (gb_r _) (fun b6 => ?_) (fun b6 => ?_)
  ·
    have b6 := gb_n0 b6
    refine G.go hX 2 (apW ct ed q0 q1 q2 q3 q4 q5 q6 q7 q8 q9 q10 q11 q12 q13 q14 q15 q16 q17 q18 q19, 14, [(0, gr 36), (1, gi 2), (2, gi e), (3, gi who), (4, gi 0)], []) rfl trivial ?_
    have lp14 : ∀ (n : Nat) (i : Int), (0 ≤ i ∧ i ≤ 6) → (∀ j : Int, 0 ≤ j → j < i → q2 j ≠ who) → (6 - i).toNat < n → G X mX0_has ad 0 0 (apW ct ed q0 q1 q2 q3 q4 q5 q6 q7 q8 q9 q10 q11 q12 q13 q14 q15 q16 q17 q18 q19, 14, [(0, gr 36), (1, gi 2), (2, gi e), (3, gi who), (4, gi i)], []) := by
      intro n
      induction n with
      | zero => intro i hi hno hm9; exact absurd hm9 (Nat.not_lt_zero _)
      | succ n ih14 =>
        intro i hi hno hm14
        refine G.go hX 5 (apW ct ed q0 q1 q2 q3 q4 q5 q6 q7 q8 q9 q10 q11 q12 q13 q14 q15 q16 q17 q18 q19, 22, [(0, gr 36), (1, gi 2), (2, gi e), (3, gi who), (4, gi i)], [gi (ct 2), gi i]) rfl ?_ ?_
        · refine ⟨?_, trivial⟩
          · omega
        refine g_icmp_ge hX 53 rfl rfl ⟨by have := hct 2; omega, by have := hct 2; omega⟩ ⟨by have := hct 2; omega, by have := hct 2; omega⟩ (fun b22 => ?_) (fun b22 => ?_)
        ·
          refine G.go hX 1 (apW ct ed q0 q1 q2 q3 q4 q5 q6 q7 q8 q9 q10 q11 q12 q13 q14 q15 q16 q17 q18 q19, 54, [(0, gr 36), (1, gi 2), (2, gi e), (3, gi who), (4, gi i)], [gi 0]) rfl trivial ?_
          exact g_zret hX hE rfl (Or.inl rfl) ⟨(congrArg (fun z => some (gi z)) (gb_f (by exact fun ⟨_, j, h1, h2, h3⟩ => hno j h1 (by have := hct 2; omega) h3)).symm), rfl⟩
        ·
          refine G.go hX 2 (apW ct ed q0 q1 q2 q3 q4 q5 q6 q7 q8 q9 q10 q11 q12 q13 q14 q15 q16 q17 q18 q19, 29, [(0, gr 36), (1, gi 2), (2, gi e), (3, gi who), (4, gi i)], [gi 6, gi i]) rfl trivial ?_
          refine g_icmp_ge hX 53 rfl rfl ⟨by omega, by omega⟩ ⟨by omega, by omega⟩ (fun b29 => ?_) (fun b29 => ?_)
          ·
            refine G.go hX 1 (apW ct ed q0 q1 q2 q3 q4 q5 q6 q7 q8 q9 q10 q11 q12 q13 q14 q15 q16 q17 q18 q19, 54, [(0, gr 36), (1, gi 2), (2, gi e), (3, gi who), (4, gi i)], [gi 0]) rfl trivial ?_
            exact g_zret hX hE rfl (Or.inl rfl) ⟨(congrArg (fun z => some (gi z)) (gb_f (by exact fun ⟨_, j, h1, h2, h3⟩ => hno j h1 (by have := hct 2; omega) h3)).symm), rfl⟩
          ·
            refine G.go hX 3 (apW ct ed q0 q1 q2 q3 q4 q5 q6 q7 q8 q9 q10 q11 q12 q13 q14 q15 q16 q17 q18 q19, 37, [(0, gr 36), (1, gi 2), (2, gi e), (3, gi who), (4, gi i)], [gi 2, gr 39]) rfl trivial ?_
            refine g_aald hX 42 rfl rfl (by omega) rfl ?_
            refine G.go hX 3 (apW ct ed q0 q1 q2 q3 q4 q5 q6 q7 q8 q9 q10 q11 q12 q13 q14 q15 q16 q17 q18 q19, 42, [(0, gr 36), (1, gi 2), (2, gi e), (3, gi who), (4, gi i)], [gi who, gi (q2 i)]) rfl ?_ ?_
            · refine ⟨?_, trivial⟩
              · omega
            refine g_icmp_ne hX 47 rfl rfl (by first | exact hq _ | assumption) (by first | exact hq _ | assumption) (fun b42 => ?_) (fun b42 => ?_)
            ·
              refine G.go hX 2 (apW ct ed q0 q1 q2 q3 q4 q5 q6 q7 q8 q9 q10 q11 q12 q13 q14 q15 q16 q17 q18 q19, 14, [(0, gr 36), (1, gi 2), (2, gi e), (3, gi who), (4, gi (i + 1))], []) rfl trivial ?_
              exact ih14 (i + 1) (by omega) (by intro j h1 h2; by_cases e9 : j = i; (subst e9; omega); exact hno j h1 (by omega)) (by omega)
            ·
              refine G.go hX 1 (apW ct ed q0 q1 q2 q3 q4 q5 q6 q7 q8 q9 q10 q11 q12 q13 q14 q15 q16 q17 q18 q19, 46, [(0, gr 36), (1, gi 2), (2, gi e), (3, gi who), (4, gi i)], [gi 1]) rfl trivial ?_
              exact g_zret hX hE rfl (Or.inr rfl) ⟨(congrArg (fun z => some (gi z)) (gb_t (by exact ⟨b6, i, by omega, by omega, by omega⟩)).symm), rfl⟩
    exact lp14 _ 0 (by omega) (by intro j h1 h2; omega) (Nat.lt_succ_self _)
  ·
    have b6 := gb_nn b6
    refine G.go hX 1 (apW ct ed q0 q1 q2 q3 q4 q5 q6 q7 q8 q9 q10 q11 q12 q13 q14 q15 q16 q17 q18 q19, 10, [(0, gr 36), (1, gi 2), (2, gi e), (3, gi who)], [gi 0]) rfl trivial ?_
    exact g_zret hX hE rfl (Or.inl rfl) ⟨(congrArg (fun z => some (gi z)) (gb_f (by exact fun h9 => b6 h9.1)).symm), rfl⟩
set_option maxHeartbeats 4000000 in
set_option maxRecDepth 100000 in
theorem c_X0_has_3 (l : Launch) (D : va_G) (cA : Nat → ClassId) (ct : Int → Int) (ed : Int → Int) (q0 : Int → Int) (q1 : Int → Int) (q2 : Int → Int) (q3 : Int → Int) (q4 : Int → Int) (q5 : Int → Int) (q6 : Int → Int) (q7 : Int → Int) (q8 : Int → Int) (q9 : Int → Int) (q10 : Int → Int) (q11 : Int → Int) (q12 : Int → Int) (q13 : Int → Int) (q14 : Int → Int) (q15 : Int → Int) (q16 : Int → Int) (q17 : Int → Int) (q18 : Int → Int) (q19 : Int → Int) (e : Int) (who : Int) (hct : ∀ q : Int, 0 ≤ ct q ∧ ct q ≤ 6) (hed : ∀ q : Int, inR (ed q)) (he : inR e) (hq : ∀ j : Int, inR (q3 j)) (hw : inR who) :
    gC l D cA yX0_has mX0_has (some .boolean) 0 0 [gr 36, gi 3, gi e, gi who] (apW ct ed q0 q1 q2 q3 q4 q5 q6 q7 q8 q9 q10 q11 q12 q13 q14 q15 q16 q17 q18 q19) (fun r9 w9 => r9 = some (gi (gb (gLt ct ed 3 e ∧ ∃ j : Int, 0 ≤ j ∧ j < ct 3 ∧ q3 j = who))) ∧ w9 = apW ct ed q0 q1 q2 q3 q4 q5 q6 q7 q8 q9 q10 q11 q12 q13 q14 q15 q16 q17 q18 q19) := by
  refine gC_of rfl kX0_has rfl rfl (Nat.le_of_ble_eq_true rfl) (fun X ad hX hE => ?_)
  refine G.go hX 3 (apW ct ed q0 q1 q2 q3 q4 q5 q6 q7 q8 q9 q10 q11 q12 q13 q14 q15 q16 q17 q18 q19, 3, [(0, gr 36), (1, gi 3), (2, gi e), (3, gi who)], [gi e, gi 3, gr 36]) rfl trivial ?_
  refine G.callV (av := [gi 3, gi e]) (o := 36) (st := []) hX rfl (fun l D cA => c_X0_isLatest l D cA ct ed q0 q1 q2 q3 q4 q5 q6 q7 q8 q9 q10 q11 q12 q13 q14 q15 q16 q17 q18 q19 3 e (by first | assumption | omega) (by first | assumption | omega) (by first | assumption | omega) (by first | assumption | omega)) (by decide +kernel) aX0_isLatest rfl rfl rfl ⟨rfl, rfl⟩ (by decide) (Nat.le_of_ble_eq_true rfl) [0, 1, 2, 3, 4, 5, 6, 7, 8, 9, 10, 11, 12, 13, 14, 15, 16, 17, 18, 19, 20, 21, 22, 23] [] [] rfl rfl rfl (fun r w' hp => ?_)
  obtain ⟨rfl, rfl⟩ := hp
  show G X mX0_has ad 0 0 (apW ct ed q0 q1 q2 q3 q4 q5 q6 q7 q8 q9 q10 q11 q12 q13 q14 q15 q16 q17 q18 q19, 6, [(0, gr 36), (1, gi 3), (2, gi e), (3, gi who)], [gi (gb (gLt ct ed 3 e))])
  refine g_if_ne hX 11 rfl rfl (gb_r _) (fun b6 => ?_) (fun b6 => ?_)
  ·
    have b6 := gb_n0 b6
    refine G.go hX 2 (apW ct ed q0 q1 q2 q3 q4 q5 q6 q7 q8 q9 q10 q11 q12 q13 q14 q15 q16 q17 q18 q19, 14, [(0, gr 36), (1, gi 3), (2, gi e), (3, gi who), (4, gi 0)], []) rfl trivial ?_
    have lp14 : ∀ (n : Nat) (i : Int), (0 ≤ i ∧ i ≤ 6) → (∀ j : Int, 0 ≤ j → j < i → q3 j ≠ who) → (6 - i).toNat < n → G X mX0_has ad 0 0 (apW ct ed q0 q1 q2 q3 q4 q5 q6 q7 q8 q9 q10 q11 q12 q13 q14 q15 q16 q17 q18 q19, 14, [(0, gr 36), (1, gi 3), (2, gi e), (3, gi who), (4, gi i)], []) := by
      intro n
      induction n with
      | zero => intro i hi hno hm9; exact absurd hm9 (Nat.not_lt_zero _)
      | succ n ih14 =>
        intro i hi hno hm14
        refine G.go hX 5 (apW ct ed q0 q1 q2 q3 q4 q5 q6 q7 q8 q9 q10 q11 q12 q13 q14 q15 q16 q17 q18 q19, 22, [(0, gr 36), (1, gi 3), (2, gi e), (3, gi who), (4, gi i)], [gi (ct 3), gi i]) rfl ?_ ?_
        · refine ⟨?_, trivial⟩
          · omega
        refine g_icmp_ge hX 53 rfl rfl ⟨by have := hct 3; omega, by have := hct 3; omega⟩ ⟨by have := hct 3; omega, by have := hct 3; omega⟩ (fun b22 => ?_) (fun b22 => ?_)
        ·
          refine G.go hX 1 (apW ct ed q0 q1 q2 q3 q4 q5 q6 q7 q8 q9 q10 q11 q12 q13 q14 q15 q16 q17 q18 q19, 54, [(0, gr 36), (1, gi 3), (2, gi e), (3, gi who), (4, gi i)], [gi 0]) rfl trivial ?_
          exact g_zret hX hE rfl (Or.inl rfl) ⟨(congrArg (fun z => some (gi z)) (gb_f (by exact fun ⟨_, j, h1, h2, h3⟩ => hno j h1 (by have := hct 3; omega) h3)).symm), rfl⟩
        ·
          refine G.go hX 2 (apW ct ed q0 q1 q2 q3 q4 q5 q6 q7 q8 q9 q10 q11 q12 q13 q14 q15 q16 q17 q18 q19, 29, [(0, gr 36), (1, gi 3), (2, gi e), (3, gi who), (4, gi i)], [gi 6, gi i]) rfl trivial ?_
          refine g_icmp_ge hX 53 rfl rfl ⟨by omega, by omega⟩ ⟨by omega, by omega⟩ (fun b29 => ?_) (fun b29 => ?_)
          ·
            refine G.go hX 1 (apW ct ed q0 q1 q2 q3 q4 q5 q6 q7 q8 q9 q10 q11 q12 q13 q14 q15 q16 q17 q18 q19, 54, [(0, gr 36), (1, gi 3), (2, gi e), (3, gi who), (4, gi i)], [gi 0]) rfl trivial ?_
            exact g_zret hX hE rfl (Or.inl rfl) ⟨(congrArg (fun z => some (gi z)) (gb_f (by exact fun ⟨_, j, h1, h2, h3⟩ => hno j h1 (by have := hct 3; omega) h3)).symm), rfl⟩
          ·
            refine G.go hX 3 (apW ct ed q0 q1 q2 q3 q4 q5 q6 q7 q8 q9 q10 q11 q12 q13 q14 q15 q16 q17 q18 q19, 37, [(0, gr 36), (1, gi 3), (2, gi e), (3, gi who), (4, gi i)], [gi 3, gr 39]) rfl trivial ?_
            refine g_aald hX 43 rfl rfl (by omega) rfl ?_
            refine G.go hX 3 (apW ct ed q0 q1 q2 q3 q4 q5 q6 q7 q8 q9 q10 q11 q12 q13 q14 q15 q16 q17 q18 q19, 42, [(0, gr 36), (1, gi 3), (2, gi e), (3, gi who), (4, gi i)], [gi who, gi (q3 i)]) rfl ?_ ?_
            · refine ⟨?_, trivial⟩
              · omega
            refine g_icmp_ne hX 47 rfl rfl (by first | exact hq _ | assumption) (by first | exact hq _ | assumption) (fun b42 => ?_) (fun b42 => ?_)
            ·
              refine G.go hX 2 (apW ct ed q0 q1 q2 q3 q4 q5 q6 q7 q8 q9 q10 q11 q12 q13 q14 q15 q16 q17 q18 q19, 14, [(0, gr 36), (1, gi 3), (2, gi e), (3, gi who), (4, gi (i + 1))], []) rfl trivial ?_
              exact ih14 (i + 1) (by omega) (by intro j h1 h2; by_cases e9 : j = i; (subst e9; omega); exact hno j h1 (by omega)) (by omega)
            ·
              refine G.go hX 1 (apW ct ed q0 q1 q2 q3 q4 q5 q6 q7 q8 q9 q10 q11 q12 q13 q14 q15 q16 q17 q18 q19, 46, [(0, gr 36), (1, gi 3), (2, gi e), (3, gi who), (4, gi i)], [gi 1]) rfl trivial ?_
              exact g_zret hX hE rfl (Or.inr rfl) ⟨(congrArg (fun z => some (gi z)) (gb_t (by exact ⟨b6, i, by omega, by omega, by omega⟩)).symm), rfl⟩
    exact lp14 _ 0 (by omega) (by intro j h1 h2; omega) (Nat.lt_succ_self _)
  ·
    have b6 := gb_nn b6
    refine G.go hX 1 (apW ct ed q0 q1 q2 q3 q4 q5 q6 q7 q8 q9 q10 q11 q12 q13 q14 q15 q16 q17 q18 q19, 10, [(0, gr 36), (1, gi 3), (2, gi e), (3, gi who)], [gi 0]) rfl trivial ?_
    exact g_zret hX hE rfl (Or.inl rfl) ⟨(congrArg (fun z => some (gi z)) (gb_f (by exact fun h9 => b6 h9.1)).symm), rfl⟩
set_option maxHeartbeats 4000000 in
set_option maxRecDepth 100000 in
theorem c_X0_has_4 (l : Launch) (D : va_G) (cA : Nat → ClassId) (ct : Int → Int) (ed : Int → Int) (q0 : Int → Int) (q1 : Int → Int) (q2 : Int → Int) (q3 : Int → Int) (q4 : Int → Int) (q5 : Int → Int) (q6 : Int → Int) (q7 : Int → Int) (q8 : Int → Int) (q9 : Int → Int) (q10 : Int → Int) (q11 : Int → Int) (q12 : Int → Int) (q13 : Int → Int) (q14 : Int → Int) (q15 : Int → Int) (q16 : Int → Int) (q17 : Int → Int) (q18 : Int → Int) (q19 : Int → Int) (e : Int) (who : Int) (hct : ∀ q : Int, 0 ≤ ct q ∧ ct q ≤ 6) (hed : ∀ q : Int, inR (ed q)) (he : inR e) (hq : ∀ j : Int, inR (q4 j)) (hw : inR who) :
    gC l D cA yX0_has mX0_has (some .boolean) 0 0 [gr 36, gi 4, gi e, gi who] (apW ct ed q0 q1 q2 q3 q4 q5 q6 q7 q8 q9 q10 q11 q12 q13 q14 q15 q16 q17 q18 q19) (fun r9 w9 => r9 = some (gi (gb (gLt ct ed 4 e ∧ ∃ j : Int, 0 ≤ j ∧ j < ct 4 ∧ q4 j = who))) ∧ w9 = apW ct ed q0 q1 q2 q3 q4 q5 q6 q7 q8 q9 q10 q11 q12 q13 q14 q15 q16 q17 q18 q19) := by
  refine gC_of rfl kX0_has rfl rfl (Nat.le_of_ble_eq_true rfl) (fun X ad hX hE => ?_)
  refine G.go hX 3 (apW ct ed q0 q1 q2 q3 q4 q5 q6 q7 q8 q9 q10 q11 q12 q13 q14 q15 q16 q17 q18 q19, 3, [(0, gr 36), (1, gi 4), (2, gi e), (3, gi who)], [gi e, gi 4, gr 36]) rfl trivial ?_
  refine G.callV (av := [gi 4, gi e]) (o := 36) (st := []) hX rfl (fun l D cA => c_X0_isLatest l D cA ct ed q0 q1 q2 q3 q4 q5 q6 q7 q8 q9 q10 q11 q12 q13 q14 q15 q16 q17 q18 q19 4 e (by first | assumption | omega) (by first | assumption | omega) (by first | assumption | omega) (by first | assumption | omega)) (by decide +kernel) aX0_isLatest rfl rfl rfl ⟨rfl, rfl⟩ (by decide) (Nat.le_of_ble_eq_true rfl) [0, 1, 2, 3, 4, 5, 6, 7, 8, 9, 10, 11, 12, 13, 14, 15, 16, 17, 18, 19, 20, 21, 22, 23] [] [] rfl rfl rfl (fun r w' hp => ?_)
  obtain ⟨rfl, rfl⟩ := hp
  show G X mX0_has ad 0 0 (apW ct ed q0 q1 q2 q3 q4 q5 q6 q7 q8 q9 q10 q11 q12 q13 q14 q15 q16 q17 q18 q19, 6, [(0, gr 36), (1, gi 4), (2, gi e), (3, gi who)], [gi (gb (gLt ct ed 4 e))])
  refine g_if_ne hX 11 rfl rfl (gb_r _) (fun b6 => ?_) (fun b6 => ?_)
  ·
    have b6 := gb_n0 b6
    refine G.go hX 2 (apW ct ed q0 q1 q2 q3 q4 q5 q6 q7 q8 q9 q10 q11 q12 q13 q14 q15 q16 q17 q18 q19, 14, [(0, gr 36), (1, gi 4), (2, gi e), (3, gi who), (4, gi 0)], []) rfl trivial ?_
    have lp14 : ∀ (n : Nat) (i : Int), (0 ≤ i ∧ i ≤ 6) → (∀ j : Int, 0 ≤ j → j < i → q4 j ≠ who) → (6 - i).toNat < n → G X mX0_has ad 0 0 (apW ct ed q0 q1 q2 q3 q4 q5 q6 q7 q8 q9 q10 q11 q12 q13 q14 q15 q16 q17 q18 q19, 14, [(0, gr 36), (1, gi 4), (2, gi e), (3, gi who), (4, gi i)], []) := by
      intro n
      induction n with
      | zero => intro i hi hno hm9; exact absurd hm9 (Nat.not_lt_zero _)
      | succ n ih14 =>
        intro i hi hno hm14
        refine G.go hX 5 (apW ct ed q0 q1 q2 q3 q4 q5 q6 q7 q8 q9 q10 q11 q12 q13 q14 q15 q16 q17 q18 q19, 22, [(0, gr 36), (1, gi 4), (2, gi e), (3, gi who), (4, gi i)], [gi (ct 4), gi i]) rfl ?_ ?_
        · refine ⟨?_, trivial⟩
          · omega
        refine g_icmp_ge hX 53 rfl rfl ⟨by have := hct 4; omega, by have := hct 4; omega⟩ ⟨by have := hct 4; omega, by have := hct 4; omega⟩ (fun b22 => ?_) (fun b22 => ?_)
        ·
          refine G.go hX 1 (apW ct ed q0 q1 q2 q3 q4 q5 q6 q7 q8 q9 q10 q11 q12 q13 q14 q15 q16 q17 q18 q19, 54, [(0, gr 36), (1, gi 4), (2, gi e), (3, gi who), (4, gi i)], [gi 0]) rfl trivial ?_
          exact g_zret hX hE rfl (Or.inl rfl) ⟨(congrArg (fun z => some (gi z)) (gb_f (by exact fun ⟨_, j, h1, h2, h3⟩ => hno j h1 (by have := hct 4; omega) h3)).symm), rfl⟩
        ·
          refine G.go hX 2 (apW ct ed q0 q1 q2 q3 q4 q5 q6 q7 q8 q9 q10 q11 q12 q13 q14 q15 q16 q17 q18 q19, 29, [(0, gr 36), (1, gi 4), (2, gi e), (3, gi who), (4, gi i)], [gi 6, gi i]) rfl trivial ?_
          refine g_icmp_ge hX 53 rfl rfl ⟨by omega, by omega⟩ ⟨by omega, by omega⟩ (fun b29 => ?_) (fun b29 => ?_)
          ·
            refine G.go hX 1 (apW ct ed q0 q1 q2 q3 q4 q5 q6 q7 q8 q9 q10 q11 q12 q13 q14 q15 q16 q17 q18 q19, 54, [(0, gr 36), (1, gi 4), (2, gi e), (3, gi who), (4, gi i)], [gi 0]) rfl trivial ?_
            exact g_zret hX hE rfl (Or.inl rfl) ⟨(congrArg (fun z => some (gi z)) (gb_f (by exact fun ⟨_, j, h1, h2, h3⟩ => hno j h1 (by have := hct 4; omega) h3)).symm), rfl⟩
          ·
            refine G.go hX 3 (apW ct ed q0 q1 q2 q3 q4 q5 q6 q7 q8 q9 q10 q11 q12 q13 q14 q15 q16 q17 q18 q19, 37, [(0, gr 36), (1, gi 4), (2, gi e), (3, gi who), (4, gi i)], [gi 4, gr 39]) rfl trivial ?_
            refine g_aald hX 44 rfl rfl (by omega) rfl ?_
            refine G.go hX 3 (apW ct ed q0 q1 q2 q3 q4 q5 q6 q7 q8 q9 q10 q11 q12 q13 q14 q15 q16 q17 q18 q19, 42, [(0, gr 36), (1, gi 4), (2, gi e), (3, gi who), (4, gi i)], [gi who, gi (q4 i)]) rfl ?_ ?_
            · refine ⟨?_, trivial⟩
              · omega
            refine g_icmp_ne hX 47 rfl rfl (by first | exact hq _ | assumption) (by first | exact hq _ | assumption) (fun b42 => ?_) (fun b42 => ?_)
            ·
              refine G.go hX 2 (apW ct ed q0 q1 q2 q3 q4 q5 q6 q7 q8 q9 q10 q11 q12 q13 q14 q15 q16 q17 q18 q19, 14, [(0, gr 36), (1, gi 4), (2, gi e), (3, gi who), (4, gi (i + 1))], []) rfl trivial ?_
              exact ih14 (i + 1) (by omega) (by intro j h1 h2; by_cases e9 : j = i; (subst e9; omega); exact hno j h1 (by omega)) (by omega)
            ·
              refine G.go hX 1 (apW ct ed q0 q1 q2 q3 q4 q5 q6 q7 q8 q9 q10 q11 q12 q13 q14 q15 q16 q17 q18 q19, 46, [(0, gr 36), (1, gi 4), (2, gi e), (3, gi who), (4, gi i)], [gi 1]) rfl trivial ?_
              exact g_zret hX hE rfl (Or.inr rfl) ⟨(congrArg (fun z => some (gi z)) (gb_t (by exact ⟨b6, i, by omega, by omega, by omega⟩)).symm), rfl⟩
    exact lp14 _ 0 (by omega) (by intro j h1 h2; omega) (Nat.lt_succ_self _)
  ·
    have b6 := gb_nn b6
    refine G.go hX 1 (apW ct ed q0 q1 q2 q3 q4 q5 q6 q7 q8 q9 q10 q11 q12 q13 q14 q15 q16 q17 q18 q19, 10, [(0, gr 36), (1, gi 4), (2, gi e), (3, gi who)], [gi 0]) rfl trivial ?_
    exact g_zret hX hE rfl (Or.inl rfl) ⟨(congrArg (fun z => some (gi z)) (gb_f (by exact fun h9 => b6 h9.1)).symm), rfl⟩
set_option maxHeartbeats 4000000 in
set_option maxRecDepth 100000 in
theorem c_X0_has_5 (l : Launch) (D : va_G) (cA : Nat → ClassId) (ct : Int → Int) (ed : Int → Int) (q0 : Int → Int) (q1 : Int → Int) (q2 : Int → Int) (q3 : Int → Int) (q4 : Int → Int) (q5 : Int → Int) (q6 : Int → Int) (q7 : Int → Int) (q8 : Int → Int) (q9 : Int → Int) (q10 : Int → Int) (q11 : Int → Int) (q12 : Int → Int) (q13 : Int → Int) (q14 : Int → Int) (q15 : Int → Int) (q16 : Int → Int) (q17 : Int → Int) (q18 : Int → Int) (q19 : Int → Int) (e : Int) (who : Int) (hct : ∀ q : Int, 0 ≤ ct q ∧ ct q ≤ 6) (hed : ∀ q : Int, inR (ed q)) (he : inR e) (hq : ∀ j : Int, inR (q5 j)) (hw : inR who) :
    gC l D cA yX0_has mX0_has (some .boolean) 0 0 [gr 36, gi 5, gi e, gi who] (apW ct ed q0 q1 q2 q3 q4 q5 q6 q7 q8 q9 q10 q11 q12 q13 q14 q15 q16 q17 q18 q19) (fun r9 w9 => r9 = some (gi (gb (gLt ct ed 5 e ∧ ∃ j : Int, 0 ≤ j ∧ j < ct 5 ∧ q5 j = who))) ∧ w9 = apW ct ed q0 q1 q2 q3 q4 q5 q6 q7 q8 q9 q10 q11 q12 q13 q14 q15 q16 q17 q18 q19) := by
  refine gC_of rfl kX0_has rfl rfl (Nat.le_of_ble_eq_true rfl) (fun X ad hX hE => ?_)
  refine G.go hX 3 (apW ct ed q0 q1 q2 q3 q4 q5 q6 q7 q8 q9 q10 q11 q12 q13 q14 q15 q16 q17 q18 q19, 3, [(0, gr 36), (1, gi 5), (2, gi e), (3, gi who)], [gi e, gi 5, gr 36]) rfl trivial ?_
  refine G.callV (av := [gi 5, gi e]) (o := 36) (st := []) hX rfl (fun l D cA => c_X0_isLatest l D cA ct ed q0 q1 q2 q3 q4 q5 q6 q7 q8 q9 q10 q11 q12 q13 q14 q15 q16 q17 q18 q19 5 e (by first | assumption | omega) (by first | assumption | omega) (by first | assumption | omega) (by first | assumption | omega)) (by decide +kernel) aX0_isLatest rfl rfl rfl ⟨rfl, rfl⟩ (by decide) (Nat.le_of_ble_eq_true rfl) [0, 1, 2, 3, 4, 5, 6, 7, 8, 9, 10, 11, 12, 13, 14, 15, 16, 17, 18, 19, 20, 21, 22, 23] [] [] rfl rfl rfl (fun r w' hp => ?_)
  obtain ⟨rfl, rfl⟩ := hp
  show G X mX0_has ad 0 0 (apW ct ed q0 q1 q2 q3 q4 q5 q6 q7 q8 q9 q10 q11 q12 q13 q14 q15 q16 q17 q18 q19, 6, [(0, gr 36), (1, gi 5), (2, gi e), (3, gi who)], [gi (gb (gLt ct ed 5 e))])
  refine g_if_ne hX 11 rfl rfl (gb_r _) (fun b6 => ?_) (fun b6 => ?_)
  ·
    have b6 := gb_n0 b6
    refine G.go hX 2 (apW ct ed q0 q1 q2 q3 q4 q5 q6 q7 q8 q9 q10 q11 q12 q13 q14 q15 q16 q17 q18 q19, 14, [(0, gr 36), (1, gi 5), (2, gi e), (3, gi who), (4, gi 0)], []) rfl trivial ?_
    have lp14 : ∀ (n : Nat) (i : Int), (0 ≤ i ∧ i ≤ 6) → (∀ j : Int, 0 ≤ j → j < i → q5 j ≠ who) → (6 - i).toNat < n → G X mX0_has ad 0 0 (apW ct ed q0 q1 q2 q3 q4 q5 q6 q7 q8 q9 q10 q11 q12 q13 q14 q15 q16 q17 q18 q19, 14, [(0, gr 36), (1, gi 5), (2, gi e), (3, gi who), (4, gi i)], []) := by
      intro n
      induction n with
      | zero => intro i hi hno hm9; exact absurd hm9 (Nat.not_lt_zero _)
      | succ n ih14 =>
        intro i hi hno hm14
        refine G.go hX 5 (apW ct ed q0 q1 q2 q3 q4 q5 q6 q7 q8 q9 q10 q11 q12 q13 q14 q15 q16 q17 q18 q19, 22, [(0, gr 36), (1, gi 5), (2, gi e), (3, gi who), (4, gi i)], [gi (ct 5), gi i]) rfl ?_ ?_
        · refine ⟨?_, trivial⟩
          · omega
        refine g_icmp_ge hX 53 rfl rfl ⟨by have := hct 5; omega, by have := hct 5; omega⟩ ⟨by have := hct 5; omega, by have := hct 5; omega⟩ (fun b22 => ?_) (fun b22 => ?_)
        ·
          refine G.go hX 1 (apW ct ed q0 q1 q2 q3 q4 q5 q6 q7 q8 q9 q10 q11 q12 q13 q14 q15 q16 q17 q18 q19, 54, [(0, gr 36), (1, gi 5), (2, gi e), (3, gi who), (4, gi i)], [gi 0]) rfl trivial ?_
          exact g_zret hX hE rfl (Or.inl rfl) ⟨(congrArg (fun z => some (gi z)) (gb_f (by exact fun ⟨_, j, h1, h2, h3⟩ => hno j h1 (by have := hct 5; omega) h3)).symm), rfl⟩
        ·
          refine G.go hX 2 (apW ct ed q0 q1 q2 q3 q4 q5 q6 q7 q8 q9 q10 q11 q12 q13 q14 q15 q16 q17 q18 q19, 29, [(0, gr 36), (1, gi 5), (2, gi e), (3, gi who), (4, gi i)], [gi 6, gi i]) rfl trivial ?_
          refine g_icmp_ge hX 53 rfl rfl ⟨by omega, by omega⟩ ⟨by omega, by omega⟩ (fun b29 => ?_) (fun b29 => ?_)
          ·
            refine G.go hX 1 (apW ct ed q0 q1 q2 q3 q4 q5 q6 q7 q8 q9 q10 q11 q12 q13 q14 q15 q16 q17 q18 q19, 54, [(0, gr 36), (1, gi 5), (2, gi e), (3, gi who), (4, gi i)], [gi 0]) rfl trivial ?_
            exact g_zret hX hE rfl (Or.inl rfl) ⟨(congrArg (fun z => some (gi z)) (gb_f (by exact fun ⟨_, j, h1, h2, h3⟩ => hno j h1 (by have := hct 5; omega) h3)).symm), rfl⟩
          ·
            refine G.go hX 3 (apW ct ed q0 q1 q2 q3 q4 q5 q6 q7 q8 q9 q10 q11 q12 q13 q14 q15 q16 q17 q18 q19, 37, [(0, gr 36), (1, gi 5), (2, gi e), (3, gi who), (4, gi i)], [gi 5, gr 39]) rfl trivial ?_
            refine g_aald hX 45 rfl rfl (by omega) rfl ?_
            refine G.go hX 3 (apW ct ed q0 q1 q2 q3 q4 q5 q6 q7 q8 q9 q10 q11 q12 q13 q14 q15 q16 q17 q18 q19, 42, [(0, gr 36), (1, gi 5), (2, gi e), (3, gi who), (4, gi i)], [gi who, gi (q5 i)]) rfl ?_ ?_
            · refine ⟨?_, trivial⟩
              · omega
            refine g_icmp_ne hX 47 rfl rfl (by first | exact hq _ | assumption) (by first | exact hq _ | assumption) (fun b42 => ?_) (fun b42 => ?_)
            ·
              refine G.go hX 2 (apW ct ed q0 q1 q2 q3 q4 q5 q6 q7 q8 q9 q10 q11 q12 q13 q14 q15 q16 q17 q18 q19, 14, [(0, gr 36), (1, gi 5), (2, gi e), (3, gi who), (4, gi (i + 1))], []) rfl trivial ?_
              exact ih14 (i + 1) (by omega) (by intro j h1 h2; by_cases e9 : j = i; (subst e9; omega); exact hno j h1 (by omega)) (by omega)
            ·
              refine G.go hX 1 (apW ct ed q0 q1 q2 q3 q4 q5 q6 q7 q8 q9 q10 q11 q12 q13 q14 q15 q16 q17 q18 q19, 46, [(0, gr 36), (1, gi 5), (2, gi e), (3, gi who), (4, gi i)], [gi 1]) rfl trivial ?_
              exact g_zret hX hE rfl (Or.inr rfl) ⟨(congrArg (fun z => some (gi z)) (gb_t (by exact ⟨b6, i, by omega, by omega, by omega⟩)).symm), rfl⟩
    exact lp14 _ 0 (by omega) (by intro j h1 h2; omega) (Nat.lt_succ_self _)
  ·
    have b6 := gb_nn b6
    refine G.go hX 1 (apW ct ed q0 q1 q2 q3 q4 q5 q6 q7 q8 q9 q10 q11 q12 q13 q14 q15 q16 q17 q18 q19, 10, [(0, gr 36), (1, gi 5), (2, gi e), (3, gi who)], [gi 0]) rfl trivial ?_
    exact g_zret hX hE rfl (Or.inl rfl) ⟨(congrArg (fun z => some (gi z)) (gb_f (by exact fun h9 => b6 h9.1)).symm), rfl⟩
set_option maxHeartbeats 4000000 in
set_option maxRecDepth 100000 in
theorem c_X0_has_6 (l : Launch) (D : va_G) (cA : Nat → ClassId) (ct : Int → Int) (ed : Int → Int) (q0 : Int → Int) (q1 : Int → Int) (q2 : Int → Int) (q3 : Int → Int) (q4 : Int → Int) (q5 : Int → Int) (q6 : Int → Int) (q7 : Int → Int) (q8 : Int → Int) (q9 : Int → Int) (q10 : Int → Int) (q11 : Int → Int) (q12 : Int → Int) (q13 : Int → Int) (q14 : Int → Int) (q15 : Int → Int) (q16 : Int → Int) (q17 : Int → Int) (q18 : Int → Int) (q19 : Int → Int) (e : Int) (who : Int) (hct : ∀ q : Int, 0 ≤ ct q ∧ ct q ≤ 6) (hed : ∀ q : Int, inR (ed q)) (he : inR e) (hq : ∀ j : Int, inR (q6 j)) (hw : inR who) :
    gC l D cA yX0_has mX0_has (some .boolean) 0 0 [gr 36, gi 6, gi e, gi who] (apW ct ed q0 q1 q2 q3 q4 q5 q6 q7 q8 q9 q10 q11 q12 q13 q14 q15 q16 q17 q18 q19) (fun r9 w9 => r9 = some (gi (gb (gLt ct ed 6 e ∧ ∃ j : Int, 0 ≤ j ∧ j < ct 6 ∧ q6 j = who))) ∧ w9 = apW ct ed q0 q1 q2 q3 q4 q5 q6 q7 q8 q9 q10 q11 q12 q13 q14 q15 q16 q17 q18 q19) := by
  refine gC_of rfl kX0_has rfl rfl (Nat.le_of_ble_eq_true rfl) (fun X ad hX hE => ?_)
  refine G.go hX 3 (apW ct ed q0 q1 q2 q3 q4 q5 q6 q7 q8 q9 q10 q11 q12 q13 q14 q15 q16 q17 q18 q19, 3, [(0, gr 36), (1, gi 6), (2, gi e), (3, gi who)], [gi e, gi 6, gr 36]) rfl trivial ?_
  refine G.callV (av := [gi 6, gi e]) (o := 36) (st := []) hX rfl (fun l D cA => c_X0_isLatest l D cA ct ed q0 q1 q2 q3 q4 q5 q6 q7 q8 q9 q10 q11 q12 q13 q14 q15 q16 q17 q18 q19 6 e (by first | assumption | omega) (by first | assumption | omega) (by first | assumption | omega) (by first | assumption | omega)) (by decide +kernel) aX0_isLatest rfl rfl rfl ⟨rfl, rfl⟩ (by decide) (Nat.le_of_ble_eq_true rfl) [0, 1, 2, 3, 4, 5, 6, 7, 8, 9, 10, 11, 12, 13, 14, 15, 16, 17, 18, 19, 20, 21, 22, 23] [] [] rfl rfl rfl (fun r w' hp => ?_)
  obtain ⟨rfl, rfl⟩ := hp
  show G X mX0_has ad 0 0 (apW ct ed q0 q1 q2 q3 q4 q5 q6 q7 q8 q9 q10 q11 q12 q13 q14 q15 q16 q17 q18 q19, 6, [(0, gr 36), (1, gi 6), (2, gi e), (3, gi who)], [gi (gb (gLt ct ed 6 e))])
  refine g_if_ne hX 11 rfl rfl (gb_r _) (fun b6 => ?_) (fun b6 => ?_)
  ·
    have b6 := gb_n0 b6
    refine G.go hX 2 (apW ct ed q0 q1 q2 q3 q4 q5 q6 q7 q8 q9 q10 q11 q12 q13 q14 q15 q16 q17 q18 q19, 14, [(0, gr 36), (1, gi 6), (2, gi e), (3, gi who), (4, gi 0)], []) rfl trivial ?_
    have lp14 : ∀ (n : Nat) (i : Int), (0 ≤ i ∧ i ≤ 6) → (∀ j : Int, 0 ≤ j → j < i → q6 j ≠ who) → (6 - i).toNat < n → G X mX0_has ad 0 0 (apW ct ed q0 q1 q2 q3 q4 q5 q6 q7 q8 q9 q10 q11 q12 q13 q14 q15 q16 q17 q18 q19, 14, [(0, gr 36), (1, gi 6), (2, gi e), (3, gi who), (4, gi i)], []) := by
      intro n
      induction n with
      | zero => intro i hi hno hm9; exact absurd hm9 (Nat.not_lt_zero _)
      | succ n ih14 =>
        intro i hi hno hm14
        refine G.go hX 5 (apW ct ed q0 q1 q2 q3 q4 q5 q6 q7 q8 q9 q10 q11 q12 q13 q14 q15 q16 q17 q18 q19, 22, [(0, gr 36), (1, gi 6), (2, gi e), (3, gi who), (4, gi i)], [gi (ct 6), gi i]) rfl ?_ ?_
        · refine ⟨?_, trivial⟩
          · omega
        refine g_icmp_ge hX 53 rfl rfl ⟨by have := hct 6; omega, by have := hct 6; omega⟩ ⟨by have := hct 6; omega, by have := hct 6; omega⟩ (fun b22 => ?_) (fun b22 => ?_)
        ·
          refine G.go hX 1 (apW ct ed q0 q1 q2 q3 q4 q5 q6 q7 q8 q9 q10 q11 q12 q13 q14 q15 q16 q17 q18 q19, 54, [(0, gr 36), (1, gi 6), (2, gi e), (3, gi who), (4, gi i)], [gi 0]) rfl trivial ?_
          exact g_zret hX hE rfl (Or.inl rfl) ⟨(congrArg (fun z => some (gi z)) (gb_f (by exact fun ⟨_, j, h1, h2, h3⟩ => hno j h1 (by have := hct 6; omega) h3)).symm), rfl⟩
        ·
          refine G.go hX 2 (apW ct ed q0 q1 q2 q3 q4 q5 q6 q7 q8 q9 q10 q11 q12 q13 q14 q15 q16 q17 q18 q19, 29, [(0, gr 36), (1, gi 6), (2, gi e), (3, gi who), (4, gi i)], [gi 6, gi i]) rfl trivial ?_
          refine g_icmp_ge hX 53 rfl rfl ⟨by omega, by omega⟩ ⟨by omega, by omega⟩ (fun b29 => ?_) (fun b29 => ?_)
          ·
            refine G.go hX 1 (apW ct ed q0 q1 q2 q3 q4 q5 q6 q7 q8 q9 q10 q11 q12 q13 q14 q15 q16 q17 q18 q19, 54, [(0, gr 36), (1, gi 6), (2, gi e), (3, gi who), (4, gi i)], [gi 0]) rfl trivial ?_
            exact g_zret hX hE rfl (Or.inl rfl) ⟨(congrArg (fun z => some (gi z)) (gb_f (by exact fun ⟨_, j, h1, h2, h3⟩ => hno j h1 (by have := hct 6; omega) h3)).symm), rfl⟩
          ·
            refine G.go hX 3 (apW ct ed q0 q1 q2 q3 q4 q5 q6 q7 q8 q9 q10 q11 q12 q13 q14 q15 q16 q17 q18 q19, 37, [(0, gr 36), (1, gi 6), (2, gi e), (3, gi who), (4, gi i)], [gi 6, gr 39]) rfl trivial ?_
            refine g_aald hX 46 rfl rfl (by omega) rfl ?_
            refine G.go hX 3 (apW ct ed q0 q1 q2 q3 q4 q5 q6 q7 q8 q9 q10 q11 q12 q13 q14 q15 q16 q17 q18 q19, 42, [(0, gr 36), (1, gi 6), (2, gi e), (3, gi who), (4, gi i)], [gi who, gi (q6 i)]) rfl ?_ ?_
            · refine ⟨?_, trivial⟩
              · omega
            refine g_icmp_ne hX 47 rfl rfl (by first | exact hq _ | assumption) (by first | exact hq _ | assumption) (fun b42 => ?_) (fun b42 => ?_)
            ·
              refine G.go hX 2 (apW ct ed q0 q1 q2 q3 q4 q5 q6 q7 q8 q9 q10 q11 q12 q13 q14 q15 q16 q17 q18 q19, 14, [(0, gr 36), (1, gi 6), (2, gi e), (3, gi who), (4, gi (i + 1))], []) rfl trivial ?_
              exact ih14 (i + 1) (by omega) (by intro j h1 h2; by_cases e9 : j = i; (subst e9; omega); exact hno j h1 (by omega)) (by omega)
            ·
              refine G.go hX 1 (apW ct ed q0 q1 q2 q3 q4 q5 q6 q7 q8 q9 q10 q11 q12 q13 q14 q15 q16 q17 q18 q19, 46, [(0, gr 36), (1, gi 6), (2, gi e), (3, gi who), (4, gi i)], [gi 1]) rfl trivial ?_
              exact g_zret hX hE rfl (Or.inr rfl) ⟨(congrArg (fun z => some (gi z)) (gb_t (by exact ⟨b6, i, by omega, by omega, by omega⟩)).symm), rfl⟩
    exact lp14 _ 0 (by omega) (by intro j h1 h2; omega) (Nat.lt_succ_self _)
  ·
    have b6 := gb_nn b6
    refine G.go hX 1 (apW ct ed q0 q1 q2 q3 q4 q5 q6 q7 q8 q9 q10 q11 q12 q13 q14 q15 q16 q17 q18 q19, 10, [(0, gr 36), (1, gi 6), (2, gi e), (3, gi who)], [gi 0]) rfl trivial ?_
    exact g_zret hX hE rfl (Or.inl rfl) ⟨(congrArg (fun z => some (gi z)) (gb_f (by exact fun h9 => b6 h9.1)).symm), rfl⟩
set_option maxHeartbeats 4000000 in
set_option maxRecDepth 100000 in
theorem c_X0_has_7 (l : Launch) (D : va_G) (cA : Nat → ClassId) (ct : Int → Int) (ed : Int → Int) (q0 : Int → Int) (q1 : Int → Int) (q2 : Int → Int) (q3 : Int → Int) (q4 : Int → Int) (q5 : Int → Int) (q6 : Int → Int) (q7 : Int → Int) (q8 : Int → Int) (q9 : Int → Int) (q10 : Int → Int) (q11 : Int → Int) (q12 : Int → Int) (q13 : Int → Int) (q14 : Int → Int) (q15 : Int → Int) (q16 : Int → Int) (q17 : Int → Int) (q18 : Int → Int) (q19 : Int → Int) (e : Int) (who : Int) (hct : ∀ q : Int, 0 ≤ ct q ∧ ct q ≤ 6) (hed : ∀ q : Int, inR (ed q)) (he : inR e) (hq : ∀ j : Int, inR (q7 j)) (hw : inR who) :
    gC l D cA yX0_has mX0_has (some .boolean) 0 0 [gr 36, gi 7, gi e, gi who] (apW ct ed q0 q1 q2 q3 q4 q5 q6 q7 q8 q9 q10 q11 q12 q13 q14 q15 q16 q17 q18 q19) (fun r9 w9 => r9 = some (gi (gb (gLt ct ed 7 e ∧ ∃ j : Int, 0 ≤ j ∧ j < ct 7 ∧ q7 j = who))) ∧ w9 = apW ct ed q0 q1 q2 q3 q4 q5 q6 q7 q8 q9 q10 q11 q12 q13 q14 q15 q16 q17 q18 q19) := by
  refine gC_of rfl kX0_has rfl rfl (Nat.le_of_ble_eq_true rfl) (fun X ad hX hE => ?_)
  refine G.go hX 3 (apW ct ed q0 q1 q2 q3 q4 q5 q6 q7 q8 q9 q10 q11 q12 q13 q14 q15 q16 q17 q18 q19, 3, [(0, gr 36), (1, gi 7), (2, gi e), (3, gi who)], [gi e, gi 7, gr 36]) rfl trivial ?_
  refine G.callV (av := [gi 7, gi e]) (o := 36) (st := []) hX rfl (fun l D cA => c_X0_isLatest l D cA ct ed q0 q1 q2 q3 q4 q5 q6 q7 q8 q9 q10 q11 q12 q13 q14 q15 q16 q17 q18 q19 7 e (by first | assumption | omega) (by first | assumption | omega) (by first | assumption | omega) (by first | assumption | omega)) (by decide +kernel) aX0_isLatest rfl rfl rfl ⟨rfl, rfl⟩ (by decide) (Nat.le_of_ble_eq_true rfl) [0, 1, 2, 3, 4, 5, 6, 7, 8, 9, 10, 11, 12, 13, 14, 15, 16, 17, 18, 19, 20, 21, 22, 23] [] [] rfl rfl rfl (fun r w' hp => ?_)
  obtain ⟨rfl, rfl⟩ := hp
  show G X mX0_has ad 0 0 (apW ct ed q0 q1 q2 q3 q4 q5 q6 q7 q8 q9 q10 q11 q12 q13 q14 q15 q16 q17 q18 q19, 6, [(0, gr 36), (1, gi 7), (2, gi e), (3, gi who)], [gi (gb (gLt ct ed 7 e))])
  refine g_if_ne hX 11 rfl rfl (gb_r _) (fun b6 => ?_) (fun b6 => ?_)
  ·
    have b6 := gb_n0 b6
    refine G.go hX 2 (apW ct ed q0 q1 q2 q3 q4 q5 q6 q7 q8 q9 q10 q11 q12 q13 q14 q15 q16 q17 q18 q19, 14, [(0, gr 36), (1, gi 7), (2, gi e), (3, gi who), (4, gi 0)], []) rfl trivial ?_
    have lp14 : ∀ (n : Nat) (i : Int), (0 ≤ i ∧ i ≤ 6) → (∀ j : Int, 0 ≤ j → j < i → q7 j ≠ who) → (6 - i).toNat < n → G X mX0_has ad 0 0 (apW ct ed q0 q1 q2 q3 q4 q5 q6 q7 q8 q9 q10 q11 q12 q13 q14 q15 q16 q17 q18 q19, 14, [(0, gr 36), (1, gi 7), (2, gi e), (3, gi who), (4, gi i)], []) := by
      intro n
      induction n with
      | zero => intro i hi hno hm9; exact absurd hm9 (Nat.not_lt_zero _)
      | succ n ih14 =>
        intro i hi hno hm14
        refine G.go hX 5 (apW ct ed q0 q1 q2 q3 q4 q5 q6 q7 q8 q9 q10 q11 q12 q13 q14 q15 q16 q17 q18 q19, 22, [(0, gr 36), (1, gi 7), (2, gi e), (3, gi who), (4, gi i)], [gi (ct 7), gi i]) rfl ?_ ?_
        · refine ⟨?_, trivial⟩
          · omega
        refine g_icmp_ge hX 53 rfl rfl ⟨by have := hct 7; omega, by have := hct 7; omega⟩ ⟨by have := hct 7; omega, by have := hct 7; omega⟩ (fun b22 => ?_) (fun b22 => ?_)
        ·
          refine G.go hX 1 (apW ct ed q0 q1 q2 q3 q4 q5 q6 q7 q8 q9 q10 q11 q12 q13 q14 q15 q16 q17 q18 q19, 54, [(0, gr 36), (1, gi 7), (2, gi e), (3, gi who), (4, gi i)], [gi 0]) rfl trivial ?_
          exact g_zret hX hE rfl (Or.inl rfl) ⟨(congrArg (fun z => some (gi z)) (gb_f (by exact fun ⟨_, j, h1, h2, h3⟩ => hno j h1 (by have := hct 7; omega) h3)).symm), rfl⟩
        ·
          refine G.go hX 2 (apW ct ed q0 q1 q2 q3 q4 q5 q6 q7 q8 q9 q10 q11 q12 q13 q14 q15 q16 q17 q18 q19, 29, [(0, gr 36), (1, gi 7), (2, gi e), (3, gi who), (4, gi i)], [gi 6, gi i]) rfl trivial ?_
          refine g_icmp_ge hX 53 rfl rfl ⟨by omega, by omega⟩ ⟨by omega, by omega⟩ (fun b29 => ?_) (fun b29 => ?_)
          ·
            refine G.go hX 1 (apW ct ed q0 q1 q2 q3 q4 q5 q6 q7 q8 q9 q10 q11 q12 q13 q14 q15 q16 q17 q18 q19, 54, [(0, gr 36), (1, gi 7), (2, gi e), (3, gi who), (4, gi i)], [gi 0]) rfl trivial ?_
            exact g_zret hX hE rfl (Or.inl rfl) ⟨(congrArg (fun z => some (gi z)) (gb_f (by exact fun ⟨_, j, h1, h2, h3⟩ => hno j h1 (by have := hct 7; omega) h3)).symm), rfl⟩
          ·
            refine G.go hX 3 (apW ct ed q0 q1 q2 q3 q4 q5 q6 q7 q8 q9 q10 q11 q12 q13 q14 q15 q16 q17 q18 q19, 37, [(0, gr 36), (1, gi 7), (2, gi e), (3, gi who), (4, gi i)], [gi 7, gr 39]) rfl trivial ?_
            refine g_aald hX 47 rfl rfl (by omega) rfl ?_
            refine G.go hX 3 (apW ct ed q0 q1 q2 q3 q4 q5 q6 q7 q8 q9 q10 q11 q12 q13 q14 q15 q16 q17 q18 q19, 42, [(0, gr 36), (1, gi 7), (2, gi e), (3, gi who), (4, gi i)], [gi who, gi (q7 i)]) rfl ?_ ?_
            · refine ⟨?_, trivial⟩
              · omega
            refine g_icmp_ne hX 47 rfl rfl (by first | exact hq _ | assumption) (by first | exact hq _ | assumption) (fun b42 => ?_) (fun b42 => ?_)
            ·
              refine G.go hX 2 (apW ct ed q0 q1 q2 q3 q4 q5 q6 q7 q8 q9 q10 q11 q12 q13 q14 q15 q16 q17 q18 q19, 14, [(0, gr 36), (1, gi 7), (2, gi e), (3, gi who), (4, gi (i + 1))], []) rfl trivial ?_
              exact ih14 (i + 1) (by omega) (by intro j h1 h2; by_cases e9 : j = i; (subst e9; omega); exact hno j h1 (by omega)) (by omega)
            ·
              refine G.go hX 1 (apW ct ed q0 q1 q2 q3 q4 q5 q6 q7 q8 q9 q10 q11 q12 q13 q14 q15 q16 q17 q18 q19, 46, [(0, gr 36), (1, gi 7), (2, gi e), (3, gi who), (4, gi i)], [gi 1]) rfl trivial ?_
              exact g_zret hX hE rfl (Or.inr rfl) ⟨(congrArg (fun z => some (gi z)) (gb_t (by exact ⟨b6, i, by omega, by omega, by omega⟩)).symm), rfl⟩
    exact lp14 _ 0 (by omega) (by intro j h1 h2; omega) (Nat.lt_succ_self _)
  ·
    have b6 := gb_nn b6
    refine G.go hX 1 (apW ct ed q0 q1 q2 q3 q4 q5 q6 q7 q8 q9 q10 q11 q12 q13 q14 q15 q16 q17 q18 q19, 10, [(0, gr 36), (1, gi 7), (2, gi e), (3, gi who)], [gi 0]) rfl trivial ?_
    exact g_zret hX hE rfl (Or.inl rfl) ⟨(congrArg (fun z => some (gi z)) (gb_f (by exact fun h9 => b6 h9.1)).symm), rfl⟩
set_option maxHeartbeats 4000000 in
set_option maxRecDepth 100000 in
theorem c_X0_has_8 (l : Launch) (D : va_G) (cA : Nat → ClassId) (ct : Int → Int) (ed : Int → Int) (q0 : Int → Int) (q1 : Int → Int) (q2 : Int → Int) (q3 : Int → Int) (q4 : Int → Int) (q5 : Int → Int) (q6 : Int → Int) (q7 : Int → Int) (q8 : Int → Int) (q9 : Int → Int) (q10 : Int → Int) (q11 : Int → Int) (q12 : Int → Int) (q13 : Int → Int) (q14 : Int → Int) (q15 : Int → Int) (q16 : Int → Int) (q17 : Int → Int) (q18 : Int → Int) (q19 : Int → Int) (e : Int) (who : Int) (hct : ∀ q : Int, 0 ≤ ct q ∧ ct q ≤ 6) (hed : ∀ q : Int, inR (ed q)) (he : inR e) (hq : ∀ j : Int, inR (q8 j)) (hw : inR who) :
    gC l D cA yX0_has mX0_has (some .boolean) 0 0 [gr 36, gi 8, gi e, gi who] (apW ct ed q0 q1 q2 q3 q4 q5 q6 q7 q8 q9 q10 q11 q12 q13 q14 q15 q16 q17 q18 q19) (fun r9 w9 => r9 = some (gi (gb (gLt ct ed 8 e ∧ ∃ j : Int, 0 ≤ j ∧ j < ct 8 ∧ q8 j = who))) ∧ w9 = apW ct ed q0 q1 q2 q3 q4 q5 q6 q7 q8 q9 q10 q11 q12 q13 q14 q15 q16 q17 q18 q19) := by
  refine gC_of rfl kX0_has rfl rfl (Nat.le_of_ble_eq_true rfl) (fun X ad hX hE => ?_)
  refine G.go hX 3 (apW ct ed q0 q1 q2 q3 q4 q5 q6 q7 q8 q9 q10 q11 q12 q13 q14 q15 q16 q17 q18 q19, 3, [(0, gr 36), (1, gi 8), (2, gi e), (3, gi who)], [gi e, gi 8, gr 36]) rfl trivial ?_
  refine G.callV (av := [gi 8, gi e]) (o := 36) (st := []) hX rfl (fun l D cA => c_X0_isLatest l D cA ct ed q0 q1 q2 q3 q4 q5 q6 q7 q8 q9 q10 q11 q12 q13 q14 q15 q16 q17 q18 q19 8 e (by first | assumption | omega) (by first | assumption | omega) (by first | assumption | omega) (by first | assumption | omega)) (by decide +kernel) aX0_isLatest rfl rfl rfl ⟨rfl, rfl⟩ (by decide) (Nat.le_of_ble_eq_true rfl) [0, 1, 2, 3, 4, 5, 6, 7, 8, 9, 10, 11, 12, 13, 14, 15, 16, 17, 18, 19, 20, 21, 22, 23] [] [] rfl rfl rfl (fun r w' hp => ?_)
  obtain ⟨rfl, rfl⟩ := hp
  show G X mX0_has ad 0 0 (apW ct ed q0 q1 q2 q3 q4 q5 q6 q7 q8 q9 q10 q11 q12 q13 q14 q15 q16 q17 q18 q19, 6, [(0, gr 36), (1, gi 8), (2, gi e), (3, gi who)], [gi (gb (gLt ct ed 8 e))])
  refine g_if_ne hX 11 rfl rfl (gb_r _) (fun b6 => ?_) (fun b6 => ?_)
  ·
    have b6 := gb_n0 b6
    refine G.go hX 2 (apW ct ed q0 q1 q2 q3 q4 q5 q6 q7 q8 q9 q10 q11 q12 q13 q14 q15 q16 q17 q18 q19, 14, [(0, gr 36), (1, gi 8), (2, gi e), (3, gi who), (4, gi 0)], []) rfl trivial ?_
    have lp14 : ∀ (n : Nat) (i : Int), (0 ≤ i ∧ i ≤ 6) → (∀ j : Int, 0 ≤ j → j < i → q8 j ≠ who) → (6 - i).toNat < n → G X mX0_has ad 0 0 (apW ct ed q0 q1 q2 q3 q4 q5 q6 q7 q8 q9 q10 q11 q12 q13 q14 q15 q16 q17 q18 q19, 14, [(0, gr 36), (1, gi 8), (2, gi e), (3, gi who), (4, gi i)], []) := by
      intro n
      induction n with
      | zero => intro i hi hno hm9; exact absurd hm9 (Nat.not_lt_zero _)
      | succ n ih14 =>
        intro i hi hno hm14
        refine G.go hX 5 (apW ct ed q0 q1 q2 q3 q4 q5 q6 q7 q8 q9 q10 q11 q12 q13 q14 q15 q16 q17 q18 q19, 22, [(0, gr 36), (1, gi 8), (2, gi e), (3, gi who), (4, gi i)], [gi (ct 8), gi i]) rfl ?_ ?_
        · refine ⟨?_, trivial⟩
          · omega
        refine g_icmp_ge hX 53 rfl rfl ⟨by have := hct 8; omega, by have := hct 8; omega⟩ ⟨by have := hct 8; omega, by have := hct 8; omega⟩ (fun b22 => ?_) (fun b22 => ?_)
        ·
          refine G.go hX 1 (apW ct ed q0 q1 q2 q3 q4 q5 q6 q7 q8 q9 q10 q11 q12 q13 q14 q15 q16 q17 q18 q19, 54, [(0, gr 36), (1, gi 8), (2, gi e), (3, gi who), (4, gi i)], [gi 0]) rfl trivial ?_
          exact g_zret hX hE rfl (Or.inl rfl) ⟨(congrArg (fun z => some (gi z)) (gb_f (by exact fun ⟨_, j, h1, h2, h3⟩ => hno j h1 (by have := hct 8; omega) h3)).symm), rfl⟩
        ·
          refine G.go hX 2 (apW ct ed q0 q1 q2 q3 q4 q5 q6 q7 q8 q9 q10 q11 q12 q13 q14 q15 q16 q17 q18 q19, 29, [(0, gr 36), (1, gi 8), (2, gi e), (3, gi who), (4, gi i)], [gi 6, gi i]) rfl trivial ?_
          refine g_icmp_ge hX 53 rfl rfl ⟨by omega, by omega⟩ ⟨by omega, by omega⟩ (fun b29 => ?_) (fun b29 => ?_)
          ·
            refine G.go hX 1 (apW ct ed q0 q1 q2 q3 q4 q5 q6 q7 q8 q9 q10 q11 q12 q13 q14 q15 q16 q17 q18 q19, 54, [(0, gr 36), (1, gi 8), (2, gi e), (3, gi who), (4, gi i)], [gi 0]) rfl trivial ?_
            exact g_zret hX hE rfl (Or.inl rfl) ⟨(congrArg (fun z => some (gi z)) (gb_f (by exact fun ⟨_, j, h1, h2, h3⟩ => hno j h1 (by have := hct 8; omega) h3)).symm), rfl⟩
          ·
            refine G.go hX 3 (apW ct ed q0 q1 q2 q3 q4 q5 q6 q7 q8 q9 q10 q11 q12 q13 q14 q15 q16 q17 q18 q19, 37, [(0, gr 36), (1, gi 8), (2, gi e), (3, gi who), (4, gi i)], [gi 8, gr 39]) rfl trivial ?_
            refine g_aald hX 48 rfl rfl (by omega) rfl ?_
            refine G.go hX 3 (apW ct ed q0 q1 q2 q3 q4 q5 q6 q7 q8 q9 q10 q11 q12 q13 q14 q15 q16 q17 q18 q19, 42, [(0, gr 36), (1, gi 8), (2, gi e), (3, gi who), (4, gi i)], [gi who, gi (q8 i)]) rfl ?_ ?_
            · refine ⟨?_, trivial⟩
              · omega
            refine g_icmp_ne hX 47 rfl rfl (by first | exact hq _ | assumption) (by first | exact hq _ | assumption) (fun b42 => ?_) (fun b42 => ?_)
            ·
              refine G.go hX 2 (apW ct ed q0 q1 q2 q3 q4 q5 q6 q7 q8 q9 q10 q11 q12 q13 q14 q15 q16 q17 q18 q19, 14, [(0, gr 36), (1, gi 8), (2, gi e), (3, gi who), (4, gi (i + 1))], []) rfl trivial ?_
              exact ih14 (i + 1) (by omega) (by intro j h1 h2; by_cases e9 : j = i; (subst e9; omega); exact hno j h1 (by omega)) (by omega)
            ·
              refine G.go hX 1 (apW ct ed q0 q1 q2 q3 q4 q5 q6 q7 q8 q9 q10 q11 q12 q13 q14 q15 q16 q17 q18 q19, 46, [(0, gr 36), (1, gi 8), (2, gi e), (3, gi who), (4, gi i)], [gi 1]) rfl trivial ?_
              exact g_zret hX hE rfl (Or.inr rfl) ⟨(congrArg (fun z => some (gi z)) (gb_t (by exact ⟨b6, i, by omega, by omega, by omega⟩)).symm), rfl⟩
    exact lp14 _ 0 (by omega) (by intro j h1 h2; omega) (Nat.lt_succ_self _)
  ·
    have b6 := gb_nn b6
    refine G.go hX 1 (apW ct ed q0 q1 q2 q3 q4 q5 q6 q7 q8 q9 q10 q11 q12 q13 q14 q15 q16 q17 q18 q19, 10, [(0, gr 36), (1, gi 8), (2, gi e), (3, gi who)], [gi 0]) rfl trivial ?_
    exact g_zret hX hE rfl (Or.inl rfl) ⟨(congrArg (fun z => some (gi z)) (gb_f (by exact fun h9 => b6 h9.1)).symm), rfl⟩
set_option maxHeartbeats 4000000 in
set_option maxRecDepth 100000 in
theorem c_X0_has_9 (l : Launch) (D : va_G) (cA : Nat → ClassId) (ct : Int → Int) (ed : Int → Int) (q0 : Int → Int) (q1 : Int → Int) (q2 : Int → Int) (q3 : Int → Int) (q4 : Int → Int) (q5 : Int → Int) (q6 : Int → Int) (q7 : Int → Int) (q8 : Int → Int) (q9 : Int → Int) (q10 : Int → Int) (q11 : Int → Int) (q12 : Int → Int) (q13 : Int → Int) (q14 : Int → Int) (q15 : Int → Int) (q16 : Int → Int) (q17 : Int → Int) (q18 : Int → Int) (q19 : Int → Int) (e : Int) (who : Int) (hct : ∀ q : Int, 0 ≤ ct q ∧ ct q ≤ 6) (hed : ∀ q : Int, inR (ed q)) (he : inR e) (hq : ∀ j : Int, inR (q9 j)) (hw : inR who) :
    gC l D cA yX0_has mX0_has (some .boolean) 0 0 [gr 36, gi 9, gi e, gi who] (apW ct ed q0 q1 q2 q3 q4 q5 q6 q7 q8 q9 q10 q11 q12 q13 q14 q15 q16 q17 q18 q19) (fun r9 w9 => r9 = some (gi (gb (gLt ct ed 9 e ∧ ∃ j : Int, 0 ≤ j ∧ j < ct 9 ∧ q9 j = who))) ∧ w9 = apW ct ed q0 q1 q2 q3 q4 q5 q6 q7 q8 q9 q10 q11 q12 q13 q14 q15 q16 q17 q18 q19) := by
  refine gC_of rfl kX0_has rfl rfl (Nat.le_of_ble_eq_true rfl) (fun X ad hX hE => ?_)
  refine G.go hX 3 (apW ct ed q0 q1 q2 q3 q4 q5 q6 q7 q8 q9 q10 q11 q12 q13 q14 q15 q16 q17 q18 q19, 3, [(0, gr 36), (1, gi 9), (2, gi e), (3, gi who)], [gi e, gi 9, gr 36]) rfl trivial ?_
  refine G.callV (av := [gi 9, gi e]) (o := 36) (st := []) hX rfl (fun l D cA => c_X0_isLatest l D cA ct ed q0 q1 q2 q3 q4 q5 q6 q7 q8 q9 q10 q11 q12 q13 q14 q15 q16 q17 q18 q19 9 e (by first | assumption | omega) (by first | assumption | omega) (by first | assumption | omega) (by first | assumption | omega)) (by decide +kernel) aX0_isLatest rfl rfl rfl ⟨rfl, rfl⟩ (by decide) (Nat.le_of_ble_eq_true rfl) [0, 1, 2, 3, 4, 5, 6, 7, 8, 9, 10, 11, 12, 13, 14, 15, 16, 17, 18, 19, 20, 21, 22, 23] [] [] rfl rfl rfl (fun r w' hp => ?_)
  obtain ⟨rfl, rfl⟩ := hp
  show G X mX0_has ad 0 0 (apW ct ed q0 q1 q2 q3 q4 q5 q6 q7 q8 q9 q10 q11 q12 q13 q14 q15 q16 q17 q18 q19, 6, [(0, gr 36), (1, gi 9), (2, gi e), (3, gi who)], [gi (gb (gLt ct ed 9 e))])
  refine g_if_ne hX 11 rfl rfl (gb_r _) (fun b6 => ?_) (fun b6 => ?_)
  ·
    have b6 := gb_n0 b6
    refine G.go hX 2 (apW ct ed q0 q1 q2 q3 q4 q5 q6 q7 q8 q9 q10 q11 q12 q13 q14 q15 q16 q17 q18 q19, 14, [(0, gr 36), (1, gi 9), (2, gi e), (3, gi who), (4, gi 0)], []) rfl trivial ?_
    have lp14 : ∀ (n : Nat) (i : Int), (0 ≤ i ∧ i ≤ 6) → (∀ j : Int, 0 ≤ j → j < i → q9 j ≠ who) → (6 - i).toNat < n → G X mX0_has ad 0 0 (apW ct ed q0 q1 q2 q3 q4 q5 q6 q7 q8 q9 q10 q11 q12 q13 q14 q15 q16 q17 q18 q19, 14, [(0, gr 36), (1, gi 9), (2, gi e), (3, gi who), (4, gi i)], []) := by
      intro n
      induction n with
      | zero => intro i hi hno hm9; exact absurd hm9 (Nat.not_lt_zero _)
      | succ n ih14 =>
        intro i hi hno hm14
        refine G.go hX 5 (apW ct ed q0 q1 q2 q3 q4 q5 q6 q7 q8 q9 q10 q11 q12 q13 q14 q15 q16 q17 q18 q19, 22, [(0, gr 36), (1, gi 9), (2, gi e), (3, gi who), (4, gi i)], [gi (ct 9), gi i]) rfl ?_ ?_
        · refine ⟨?_, trivial⟩
          · omega
        refine g_icmp_ge hX 53 rfl rfl ⟨by have := hct 9; omega, by have := hct 9; omega⟩ ⟨by have := hct 9; omega, by have := hct 9; omega⟩ (fun b22 => ?_) (fun b22 => ?_)
        ·
          refine G.go hX 1 (apW ct ed q0 q1 q2 q3 q4 q5 q6 q7 q8 q9 q10 q11 q12 q13 q14 q15 q16 q17 q18 q19, 54, [(0, gr 36), (1, gi 9), (2, gi e), (3, gi who), (4, gi i)], [gi 0]) rfl trivial ?_
          exact g_zret hX hE rfl (Or.inl rfl) ⟨(congrArg (fun z => some (gi z)) (gb_f (by exact fun ⟨_, j, h1, h2, h3⟩ => hno j h1 (by have := hct 9; omega) h3)).symm), rfl⟩
        ·
          refine G.go hX 2 (apW ct ed q0 q1 q2 q3 q4 q5 q6 q7 q8 q9 q10 q11 q12 q13 q14 q15 q16 q17 q18 q19, 29, [(0, gr 36), (1, gi 9), (2, gi e), (3, gi who), (4, gi i)], [gi 6, gi i]) rfl trivial ?_
          refine g_icmp_ge hX 53 rfl rfl ⟨by omega, by omega⟩ ⟨by omega, by omega⟩ (fun b29 => ?_) (fun b29 => ?_)
          ·
            refine G.go hX 1 (apW ct ed q0 q1 q2 q3 q4 q5 q6 q7 q8 q9 q10 q11 q12 q13 q14 q15 q16 q17 q18 q19, 54, [(0, gr 36), (1, gi 9), (2, gi e), (3, gi who), (4, gi i)], [gi 0]) rfl trivial ?_
            exact g_zret hX hE rfl (Or.inl rfl) ⟨(congrArg (fun z => some (gi z)) (gb_f (by exact fun ⟨_, j, h1, h2, h3⟩ => hno j h1 (by have := hct 9; omega) h3)).symm), rfl⟩
          ·
            refine G.go hX 3 (apW ct ed q0 q1 q2 q3 q4 q5 q6 q7 q8 q9 q10 q11 q12 q13 q14 q15 q16 q17 q18 q19, 37, [(0, gr 36), (1, gi 9), (2, gi e), (3, gi who), (4, gi i)], [gi 9, gr 39]) rfl trivial ?_
            refine g_aald hX 49 rfl rfl (by omega) rfl ?_
            refine G.go hX 3 (apW ct ed q0 q1 q2 q3 q4 q5 q6 q7 q8 q9 q10 q11 q12 q13 q14 q15 q16 q17 q18 q19, 42, [(0, gr 36), (1, gi 9), (2, gi e), (3, gi who), (4, gi i)], [gi who, gi (q9 i)]) rfl ?_ ?_
            · refine ⟨?_, trivial⟩
              · omega
            refine g_icmp_ne hX 47 rfl rfl (by first | exact hq _ | assumption) (by first | exact hq _ | assumption) (fun b42 => ?_) (fun b42 => ?_)
            ·
              refine G.go hX 2 (apW ct ed q0 q1 q2 q3 q4 q5 q6 q7 q8 q9 q10 q11 q12 q13 q14 q15 q16 q17 q18 q19, 14, [(0, gr 36), (1, gi 9), (2, gi e), (3, gi who), (4, gi (i + 1))], []) rfl trivial ?_
              exact ih14 (i + 1) (by omega) (by intro j h1 h2; by_cases e9 : j = i; (subst e9; omega); exact hno j h1 (by omega)) (by omega)
            ·
              refine G.go hX 1 (apW ct ed q0 q1 q2 q3 q4 q5 q6 q7 q8 q9 q10 q11 q12 q13 q14 q15 q16 q17 q18 q19, 46, [(0, gr 36), (1, gi 9), (2, gi e), (3, gi who), (4, gi i)], [gi 1]) rfl trivial ?_
              exact g_zret hX hE rfl (Or.inr rfl) ⟨(congrArg (fun z => some (gi z)) (gb_t (by exact ⟨b6, i, by omega, by omega, by omega⟩)).symm), rfl⟩
    exact lp14 _ 0 (by omega) (by intro j h1 h2; omega) (Nat.lt_succ_self _)
  ·
    have b6 := gb_nn b6
    refine G.go hX 1 (apW ct ed q0 q1 q2 q3 q4 q5 q6 q7 q8 q9 q10 q11 q12 q13 q14 q15 q16 q17 q18 q19, 10, [(0, gr 36), (1, gi 9), (2, gi e), (3, gi who)], [gi 0]) rfl trivial ?_
    exact g_zret hX hE rfl (Or.inl rfl) ⟨(congrArg (fun z => some (gi z)) (gb_f (by exact fun h9 => b6 h9.1)).symm), rfl⟩
set_option maxHeartbeats 4000000 in
set_option maxRecDepth 100000 in
theorem c_X0_has_10 (l : Launch) (D : va_G) (cA : Nat → ClassId) (ct : Int → Int) (ed : Int → Int) (q0 : Int → Int) (q1 : Int → Int) (q2 : Int → Int) (q3 : Int → Int) (q4 : Int → Int) (q5 : Int → Int) (q6 : Int → Int) (q7 : Int → Int) (q8 : Int → Int) (q9 : Int → Int) (q10 : Int → Int) (q11 : Int → Int) (q12 : Int → Int) (q13 : Int → Int) (q14 : Int → Int) (q15 : Int → Int) (q16 : Int → Int) (q17 : Int → Int) (q18 : Int → Int) (q19 : Int → Int) (e : Int) (who : Int) (hct : ∀ q : Int, 0 ≤ ct q ∧ ct q ≤ 6) (hed : ∀ q : Int, inR (ed q)) (he : inR e) (hq : ∀ j : Int, inR (q10 j)) (hw : inR who) :
    gC l D cA yX0_has mX0_has (some .boolean) 0 0 [gr 36, gi 10, gi e, gi who] (apW ct ed q0 q1 q2 q3 q4 q5 q6 q7 q8 q9 q10 q11 q12 q13 q14 q15 q16 q17 q18 q19) (fun r9 w9 => r9 = some (gi (gb (gLt ct ed 10 e ∧ ∃ j : Int, 0 ≤ j ∧ j < ct 10 ∧ q10 j = who))) ∧ w9 = apW ct ed q0 q1 q2 q3 q4 q5 q6 q7 q8 q9 q10 q11 q12 q13 q14 q15 q16 q17 q18 q19) := by
  refine gC_of rfl kX0_has rfl rfl (Nat.le_of_ble_eq_true rfl) (fun X ad hX hE => ?_)
  refine G.go hX 3 (apW ct ed q0 q1 q2 q3 q4 q5 q6 q7 q8 q9 q10 q11 q12 q13 q14 q15 q16 q17 q18 q19, 3, [(0, gr 36), (1, gi 10), (2, gi e), (3, gi who)], [gi e, gi 10, gr 36]) rfl trivial ?_
  refine G.callV (av := [gi 10, gi e]) (o := 36) (st := []) hX rfl (fun l D cA => c_X0_isLatest l D cA ct ed q0 q1 q2 q3 q4 q5 q6 q7 q8 q9 q10 q11 q12 q13 q14 q15 q16 q17 q18 q19 10 e (by first | assumption | omega) (by first | assumption | omega) (by first | assumption | omega) (by first | assumption | omega)) (by decide +kernel) aX0_isLatest rfl rfl rfl ⟨rfl, rfl⟩ (by decide) (Nat.le_of_ble_eq_true rfl) [0, 1, 2, 3, 4, 5, 6, 7, 8, 9, 10, 11, 12, 13, 14, 15, 16, 17, 18, 19, 20, 21, 22, 23] [] [] rfl rfl rfl (fun r w' hp => ?_)
  obtain ⟨rfl, rfl⟩ := hp
  show G X mX0_has ad 0 0 (apW ct ed q0 q1 q2 q3 q4 q5 q6 q7 q8 q9 q10 q11 q12 q13 q14 q15 q16 q17 q18 q19, 6, [(0, gr 36), (1, gi 10), (2, gi e), (3, gi who)], [gi (gb (gLt ct ed 10 e))])
  refine g_if_ne hX 11 rfl rfl (gb_r _) (fun b6 => ?_) (fun b6 => ?_)
  ·
    have b6 := gb_n0 b6
    refine G.go hX 2 (apW ct ed q0 q1 q2 q3 q4 q5 q6 q7 q8 q9 q10 q11 q12 q13 q14 q15 q16 q17 q18 q19, 14, [(0, gr 36), (1, gi 10), (2, gi e), (3, gi who), (4, gi 0)], []) rfl trivial ?_
    have lp14 : ∀ (n : Nat) (i : Int), (0 ≤ i ∧ i ≤ 6) → (∀ j : Int, 0 ≤ j → j < i → q10 j ≠ who) → (6 - i).toNat < n → G X mX0_has ad 0 0 (apW ct ed q0 q1 q2 q3 q4 q5 q6 q7 q8 q9 q10 q11 q12 q13 q14 q15 q16 q17 q18 q19, 14, [(0, gr 36), (1, gi 10), (2, gi e), (3, gi who), (4, gi i)], []) := by
      intro n
      induction n with
      | zero => intro i hi hno hm9; exact absurd hm9 (Nat.not_lt_zero _)
      | succ n ih14 =>
        intro i hi hno hm14
        refine G.go hX 5 (apW ct ed q0 q1 q2 q3 q4 q5 q6 q7 q8 q9 q10 q11 q12 q13 q14 q15 q16 q17 q18 q19, 22, [(0, gr 36), (1, gi 10), (2, gi e), (3, gi who), (4, gi i)], [gi (ct 10), gi i]) rfl ?_ ?_
        · refine ⟨?_, trivial⟩
          · omega
        refine g_icmp_ge hX 53 rfl rfl ⟨by have := hct 10; omega, by have := hct 10; omega⟩ ⟨by have := hct 10; omega, by have := hct 10; omega⟩ (fun b22 => ?_) (fun b22 => ?_)
        ·
          refine G.go hX 1 (apW ct ed q0 q1 q2 q3 q4 q5 q6 q7 q8 q9 q10 q11 q12 q13 q14 q15 q16 q17 q18 q19, 54, [(0, gr 36), (1, gi 10), (2, gi e), (3, gi who), (4, gi i)], [gi 0]) rfl trivial ?_
          exact g_zret hX hE rfl (Or.inl rfl) ⟨(congrArg (fun z => some (gi z)) (gb_f (by exact fun ⟨_, j, h1, h2, h3⟩ => hno j h1 (by have := hct 10; omega) h3)).symm), rfl⟩
        ·
          refine G.go hX 2 (apW ct ed q0 q1 q2 q3 q4 q5 q6 q7 q8 q9 q10 q11 q12 q13 q14 q15 q16 q17 q18 q19, 29, [(0, gr 36), (1, gi 10), (2, gi e), (3, gi who), (4, gi i)], [gi 6, gi i]) rfl trivial ?_
          refine g_icmp_ge hX 53 rfl rfl ⟨by omega, by omega⟩ ⟨by omega, by omega⟩ (fun b29 => ?_) (fun b29 => ?_)
          ·
            refine G.go hX 1 (apW ct ed q0 q1 q2 q3 q4 q5 q6 q7 q8 q9 q10 q11 q12 q13 q14 q15 q16 q17 q18 q19, 54, [(0, gr 36), (1, gi 10), (2, gi e), (3, gi who), (4, gi i)], [gi 0]) rfl trivial ?_
            exact g_zret hX hE rfl (Or.inl rfl) ⟨(congrArg (fun z => some (gi z)) (gb_f (by exact fun ⟨_, j, h1, h2, h3⟩ => hno j h1 (by have := hct 10; omega) h3)).symm), rfl⟩
          ·
            refine G.go hX 3 (apW ct ed q0 q1 q2 q3 q4 q5 q6 q7 q8 q9 q10 q11 q12 q13 q14 q15 q16 q17 q18 q19, 37, [(0, gr 36), (1, gi 10), (2, gi e), (3, gi who), (4, gi i)], [gi 10, gr 39]) rfl trivial ?_
            refine g_aald hX 50 rfl rfl (by omega) rfl ?_
            refine G.go hX 3 (apW ct ed q0 q1 q2 q3 q4 q5 q6 q7 q8 q9 q10 q11 q12 q13 q14 q15 q16 q17 q18 q19, 42, [(0, gr 36), (1, gi 10), (2, gi e), (3, gi who), (4, gi i)], [gi who, gi (q10 i)]) rfl ?_ ?_
            · refine ⟨?_, trivial⟩
              · omega
            refine g_icmp_ne hX 47 rfl rfl (by first | exact hq _ | assumption) (by first | exact hq _ | assumption) (fun b42 => ?_) (fun b42 => ?_)
            ·
              refine G.go hX 2 (apW ct ed q0 q1 q2 q3 q4 q5 q6 q7 q8 q9 q10 q11 q12 q13 q14 q15 q16 q17 q18 q19, 14, [(0, gr 36), (1, gi 10), (2, gi e), (3, gi who), (4, gi (i + 1))], []) rfl trivial ?_
              exact ih14 (i + 1) (by omega) (by intro j h1 h2; by_cases e9 : j = i; (subst e9; omega); exact hno j h1 (by omega)) (by omega)
            ·
              refine G.go hX 1 (apW ct ed q0 q1 q2 q3 q4 q5 q6 q7 q8 q9 q10 q11 q12 q13 q14 q15 q16 q17 q18 q19, 46, [(0, gr 36), (1, gi 10), (2, gi e), (3, gi who), (4, gi i)], [gi 1]) rfl trivial ?_
              exact g_zret hX hE rfl (Or.inr rfl) ⟨(congrArg (fun z => some (gi z)) (gb_t (by exact ⟨b6, i, by omega, by omega, by omega⟩)).symm), rfl⟩
    exact lp14 _ 0 (by omega) (by intro j h1 h2; omega) (Nat.lt_succ_self _)
  ·
    have b6 := gb_nn b6
    refine G.go hX 1 (apW ct ed q0 q1 q2 q3 q4 q5 q6 q7 q8 q9 q10 q11 q12 q13 q14 q15 q16 q17 q18 q19, 10, [(0, gr 36), (1, gi 10), (2, gi e), (3, gi who)], [gi 0]) rfl trivial ?_
    exact g_zret hX hE rfl (Or.inl rfl) ⟨(congrArg (fun z => some (gi z)) (gb_f (by exact fun h9 => b6 h9.1)).symm), rfl⟩
set_option maxHeartbeats 4000000 in
set_option maxRecDepth 100000 in
theorem c_X0_has_11 (l : Launch) (D : va_G) (cA : Nat → ClassId) (ct : Int → Int) (ed : Int → Int) (q0 : Int → Int) (q1 : Int → Int) (q2 : Int → Int) (q3 : Int → Int) (q4 : Int → Int) (q5 : Int → Int) (q6 : Int → Int) (q7 : Int → Int) (q8 : Int → Int) (q9 : Int → Int) (q10 : Int → Int) (q11 : Int → Int) (q12 : Int → Int) (q13 : Int → Int) (q14 : Int → Int) (q15 : Int → Int) (q16 : Int → Int) (q17 : Int → Int) (q18 : Int → Int) (q19 : Int → Int) (e : Int) (who : Int) (hct : ∀ q : Int, 0 ≤ ct q ∧ ct q ≤ 6) (hed : ∀ q : Int, inR (ed q)) (he : inR e) (hq : ∀ j : Int, inR (q11 j)) (hw : inR who) :
    gC l D cA yX0_has mX0_has (some .boolean) 0 0 [gr 36, gi 11, gi e, gi who] (apW ct ed q0 q1 q2 q3 q4 q5 q6 q7 q8 q9 q10 q11 q12 q13 q14 q15 q16 q17 q18 q19) (fun r9 w9 => r9 = some (gi (gb (gLt ct ed 11 e ∧ ∃ j : Int, 0 ≤ j ∧ j < ct 11 ∧ q11 j = who))) ∧ w9 = apW ct ed q0 q1 q2 q3 q4 q5 q6 q7 q8 q9 q10 q11 q12 q13 q14 q15 q16 q17 q18 q19) := by
  refine gC_of rfl kX0_has rfl rfl (Nat.le_of_ble_eq_true rfl) (fun X ad hX hE => ?_)
  refine G.go hX 3 (apW ct ed q0 q1 q2 q3 q4 q5 q6 q7 q8 q9 q10 q11 q12 q13 q14 q15 q16 q17 q18 q19, 3, [(0, gr 36), (1, gi 11), (2, gi e), (3, gi who)], [gi e, gi 11, gr 36]) rfl trivial ?_
  refine G.callV (av := [gi 11, gi e]) (o := 36) (st := []) hX rfl (fun l D cA => c_X0_isLatest l D cA ct ed q0 q1 q2 q3 q4 q5 q6 q7 q8 q9 q10 q11 q12 q13 q14 q15 q16 q17 q18 q19 11 e (by first | assumption | omega) (by first | assumption | omega) (by first | assumption | omega) (by first | assumption | omega)) (by decide +kernel) aX0_isLatest rfl rfl rfl ⟨rfl, rfl⟩ (by decide) (Nat.le_of_ble_eq_true rfl) [0, 1, 2, 3, 4, 5, 6, 7, 8, 9, 10, 11, 12, 13, 14, 15, 16, 17, 18, 19, 20, 21, 22, 23] [] [] rfl rfl rfl (fun r w' hp => ?_)
  obtain ⟨rfl, rfl⟩ := hp
  show G X mX0_has ad 0 0 (apW ct ed q0 q1 q2 q3 q4 q5 q6 q7 q8 q9 q10 q11 q12 q13 q14 q15 q16 q17 q18 q19, 6, [(0, gr 36), (1, gi 11), (2, gi e), (3, gi who)], [gi (gb (gLt ct ed 11 e))])
  refine g_if_ne hX 11 rfl rfl (gb_r _) (fun b6 => ?_) (fun b6 => ?_)
  ·
    have b6 := gb_n0 b6
    refine G.go hX 2 (apW ct ed q0 q1 q2 q3 q4 q5 q6 q7 q8 q9 q10 q11 q12 q13 q14 q15 q16 q17 q18 q19, 14, [(0, gr 36), (1, gi 11), (2, gi e), (3, gi who), (4, gi 0)], []) rfl trivial ?_
    have lp14 : ∀ (n : Nat) (i : Int), (0 ≤ i ∧ i ≤ 6) → (∀ j : Int, 0 ≤ j → j < i → q11 j ≠ who) → (6 - i).toNat < n → G X mX0_has ad 0 0 (apW ct ed q0 q1 q2 q3 q4 q5 q6 q7 q8 q9 q10 q11 q12 q13 q14 q15 q16 q17 q18 q19, 14, [(0, gr 36), (1, gi 11), (2, gi e), (3, gi who), (4, gi i)], []) := by
      intro n
      induction n with
      | zero => intro i hi hno hm9; exact absurd hm9 (Nat.not_lt_zero _)
      | succ n ih14 =>
        intro i hi hno hm14
        refine G.go hX 5 (apW ct ed q0 q1 q2 q3 q4 q5 q6 q7 q8 q9 q10 q11 q12 q13 q14 q15 q16 q17 q18 q19, 22, [(0, gr 36), (1, gi 11), (2, gi e), (3, gi who), (4, gi i)], [gi (ct 11), gi i]) rfl ?_ ?_
        · refine ⟨?_, trivial⟩
          · omega
        refine g_icmp_ge hX 53 rfl rfl ⟨by have := hct 11; omega, by have := hct 11; omega⟩ ⟨by have := hct 11; omega, by have := hct 11; omega⟩ (fun b22 => ?_) (fun b22 => ?_)
        ·
          refine G.go hX 1 (apW ct ed q0 q1 q2 q3 q4 q5 q6 q7 q8 q9 q10 q11 q12 q13 q14 q15 q16 q17 q18 q19, 54, [(0, gr 36), (1, gi 11), (2, gi e), (3, gi who), (4, gi i)], [gi 0]) rfl trivial ?_
          exact g_zret hX hE rfl (Or.inl rfl) ⟨(congrArg (fun z => some (gi z)) (gb_f (by exact fun ⟨_, j, h1, h2, h3⟩ => hno j h1 (by have := hct 11; omega) h3)).symm), rfl⟩
        ·
          refine G.go hX 2 (apW ct ed q0 q1 q2 q3 q4 q5 q6 q7 q8 q9 q10 q11 q12 q13 q14 q15 q16 q17 q18 q19, 29, [(0, gr 36), (1, gi 11), (2, gi e), (3, gi who), (4, gi i)], [gi 6, gi i]) rfl trivial ?_
          refine g_icmp_ge hX 53 rfl rfl ⟨by omega, by omega⟩ ⟨by omega, by omega⟩ (fun b29 => ?_) (fun b29 => ?_)
          ·
            refine G.go hX 1 (apW ct ed q0 q1 q2 q3 q4 q5 q6 q7 q8 q9 q10 q11 q12 q13 q14 q15 q16 q17 q18 q19, 54, [(0, gr 36), (1, gi 11), (2, gi e), (3, gi who), (4, gi i)], [gi 0]) rfl trivial ?_
            exact g_zret hX hE rfl (Or.inl rfl) ⟨(congrArg (fun z => some (gi z)) (gb_f (by exact fun ⟨_, j, h1, h2, h3⟩ => hno j h1 (by have := hct 11; omega) h3)).symm), rfl⟩
          ·
            refine G.go hX 3 (apW ct ed q0 q1 q2 q3 q4 q5 q6 q7 q8 q9 q10 q11 q12 q13 q14 q15 q16 q17 q18 q19, 37, [(0, gr 36), (1, gi 11), (2, gi e), (3, gi who), (4, gi i)], [gi 11, gr 39]) rfl trivial ?_
            refine g_aald hX 51 rfl rfl (by omega) rfl ?_
            refine G.go hX 3 (apW ct ed q0 q1 q2 q3 q4 q5 q6 q7 q8 q9 q10 q11 q12 q13 q14 q15 q16 q17 q18 q19, 42, [(0, gr 36), (1, gi 11), (2, gi e), (3, gi who), (4, gi i)], [gi who, gi (q11 i)]) rfl ?_ ?_
            · refine ⟨?_, trivial⟩
              · omega
            refine g_icmp_ne hX 47 rfl rfl (by first | exact hq _ | assumption) (by first | exact hq _ | assumption) (fun b42 => ?_) (fun b42 => ?_)
            ·
              refine G.go hX 2 (apW ct ed q0 q1 q2 q3 q4 q5 q6 q7 q8 q9 q10 q11 q12 q13 q14 q15 q16 q17 q18 q19, 14, [(0, gr 36), (1, gi 11), (2, gi e), (3, gi who), (4, gi (i + 1))], []) rfl trivial ?_
              exact ih14 (i + 1) (by omega) (by intro j h1 h2; by_cases e9 : j = i; (subst e9; omega); exact hno j h1 (by omega)) (by omega)
            ·
              refine G.go hX 1 (apW ct ed q0 q1 q2 q3 q4 q5 q6 q7 q8 q9 q10 q11 q12 q13 q14 q15 q16 q17 q18 q19, 46, [(0, gr 36), (1, gi 11), (2, gi e), (3, gi who), (4, gi i)], [gi 1]) rfl trivial ?_
              exact g_zret hX hE rfl (Or.inr rfl) ⟨(congrArg (fun z => some (gi z)) (gb_t (by exact ⟨b6, i, by omega, by omega, by omega⟩)).symm), rfl⟩
    exact lp14 _ 0 (by omega) (by intro j h1 h2; omega) (Nat.lt_succ_self _)
  ·
    have b6 := gb_nn b6
    refine G.go hX 1 (apW ct ed q0 q1 q2 q3 q4 q5 q6 q7 q8 q9 q10 q11 q12 q13 q14 q15 q16 q17 q18 q19, 10, [(0, gr 36), (1, gi 11), (2, gi e), (3, gi who)], [gi 0]) rfl trivial ?_
    exact g_zret hX hE rfl (Or.inl rfl) ⟨(congrArg (fun z => some (gi z)) (gb_f (by exact fun h9 => b6 h9.1)).symm), rfl⟩
set_option maxHeartbeats 4000000 in
set_option maxRecDepth 100000 in
theorem c_X0_has_12 (l : Launch) (D : va_G) (cA : Nat → ClassId) (ct : Int → Int) (ed : Int → Int) (q0 : Int → Int) (q1 : Int → Int) (q2 : Int → Int) (q3 : Int → Int) (q4 : Int → Int) (q5 : Int → Int) (q6 : Int → Int) (q7 : Int → Int) (q8 : Int → Int) (q9 : Int → Int) (q10 : Int → Int) (q11 : Int → Int) (q12 : Int → Int) (q13 : Int → Int) (q14 : Int → Int) (q15 : Int → Int) (q16 : Int → Int) (q17 : Int → Int) (q18 : Int → Int) (q19 : Int → Int) (e : Int) (who : Int) (hct : ∀ q : Int, 0 ≤ ct q ∧ ct q ≤ 6) (hed : ∀ q : Int, inR (ed q)) (he : inR e) (hq : ∀ j : Int, inR (q12 j)) (hw : inR who) :
    gC l D cA yX0_has mX0_has (some .boolean) 0 0 [gr 36, gi 12, gi e, gi who] (apW ct ed q0 q1 q2 q3 q4 q5 q6 q7 q8 q9 q10 q11 q12 q13 q14 q15 q16 q17 q18 q19) (fun r9 w9 => r9 = some (gi (gb (gLt ct ed 12 e ∧ ∃ j : Int, 0 ≤ j ∧ j < ct 12 ∧ q12 j = who))) ∧ w9 = apW ct ed q0 q1 q2 q3 q4 q5 q6 q7 q8 q9 q10 q11 q12 q13 q14 q15 q16 q17 q18 q19) := by
  refine gC_of rfl kX0_has rfl rfl (Nat.le_of_ble_eq_true rfl) (fun X ad hX hE => ?_)
  refine G.go hX 3 (apW ct ed q0 q1 q2 q3 q4 q5 q6 q7 q8 q9 q10 q11 q12 q13 q14 q15 q16 q17 q18 q19, 3, [(0, gr 36), (1, gi 12), (2, gi e), (3, gi who)], [gi e, gi 12, gr 36]) rfl trivial ?_
  refine G.callV (av := [gi 12, gi e]) (o := 36) (st := []) hX rfl (fun l D cA => c_X0_isLatest l D cA ct ed q0 q1 q2 q3 q4 q5 q6 q7 q8 q9 q10 q11 q12 q13 q14 q15 q16 q17 q18 q19 12 e (by first | assumption | omega) (by first | assumption | omega) (by first | assumption | omega) (by first | assumption | omega)) (by decide +kernel) aX0_isLatest rfl rfl rfl ⟨rfl, rfl⟩ (by decide) (Nat.le_of_ble_eq_true rfl) [0, 1, 2, 3, 4, 5, 6, 7, 8, 9, 10, 11, 12, 13, 14, 15, 16, 17, 18, 19, 20, 21, 22, 23] [] [] rfl rfl rfl (fun r w' hp => ?_)
  obtain ⟨rfl, rfl⟩ := hp
  show G X mX0_has ad 0 0 (apW ct ed q0 q1 q2 q3 q4 q5 q6 q7 q8 q9 q10 q11 q12 q13 q14 q15 q16 q17 q18 q19, 6, [(0, gr 36), (1, gi 12), (2, gi e), (3, gi who)], [gi (gb (gLt ct ed 12 e))])
  refine g_if_ne hX 11 rfl rfl (gb_r _) (fun b6 => ?_) (fun b6 => ?_)
  ·
    have b6 := gb_n0 b6
    refine G.go hX 2 (apW ct ed q0 q1 q2 q3 q4 q5 q6 q7 q8 q9 q10 q11 q12 q13 q14 q15 q16 q17 q18 q19, 14, [(0, gr 36), (1, gi 12), (2, gi e), (3, gi who), (4, gi 0)], []) rfl trivial ?_
    have lp14 : ∀ (n : Nat) (i : Int), (0 ≤ i ∧ i ≤ 6) → (∀ j : Int, 0 ≤ j → j < i → q12 j ≠ who) → (6 - i).toNat < n → G X mX0_has ad 0 0 (apW ct ed q0 q1 q2 q3 q4 q5 q6 q7 q8 q9 q10 q11 q12 q13 q14 q15 q16 q17 q18 q19, 14, [(0, gr 36), (1, gi 12), (2, gi e), (3, gi who), (4, gi i)], []) := by
      intro n
      induction n with
      | zero => intro i hi hno hm9; exact absurd hm9 (Nat.not_lt_zero _)
      | succ n ih14 =>
        intro i hi hno hm14
        refine G.go hX 5 (apW ct ed q0 q1 q2 q3 q4 q5 q6 q7 q8 q9 q10 q11 q12 q13 q14 q15 q16 q17 q18 q19, 22, [(0, gr 36), (1, gi 12), (2, gi e), (3, gi who), (4, gi i)], [gi (ct 12), gi i]) rfl ?_ ?_
        · refine ⟨?_, trivial⟩
          · omega
        refine g_icmp_ge hX 53 rfl rfl ⟨by have := hct 12; omega, by have := hct 12; omega⟩ ⟨by have := hct 12; omega, by have := hct 12; omega⟩ (fun b22 => ?_) (fun b22 => ?_)
        ·
          refine G.go hX 1 (apW ct ed q0 q1 q2 q3 q4 q5 q6 q7 q8 q9 q10 q11 q12 q13 q14 q15 q16 q17 q18 q19, 54, [(0, gr 36), (1, gi 12), (2, gi e), (3, gi who), (4, gi i)], [gi 0]) rfl trivial ?_
          exact g_zret hX hE rfl (Or.inl rfl) ⟨(congrArg (fun z => some (gi z)) (gb_f (by exact fun ⟨_, j, h1, h2, h3⟩ => hno j h1 (by have := hct 12; omega) h3)).symm), rfl⟩
        ·
          refine G.go hX 2 (apW ct ed q0 q1 q2 q3 q4 q5 q6 q7 q8 q9 q10 q11 q12 q13 q14 q15 q16 q17 q18 q19, 29, [(0, gr 36), (1, gi 12), (2, gi e), (3, gi who), (4, gi i)], [gi 6, gi i]) rfl trivial ?_
          refine g_icmp_ge hX 53 rfl rfl ⟨by omega, by omega⟩ ⟨by omega, by omega⟩ (fun b29 => ?_) (fun b29 => ?_)
          ·
            refine G.go hX 1 (apW ct ed q0 q1 q2 q3 q4 q5 q6 q7 q8 q9 q10 q11 q12 q13 q14 q15 q16 q17 q18 q19, 54, [(0, gr 36), (1, gi 12), (2, gi e), (3, gi who), (4, gi i)], [gi 0]) rfl trivial ?_
            exact g_zret hX hE rfl (Or.inl rfl) ⟨(congrArg (fun z => some (gi z)) (gb_f (by exact fun ⟨_, j, h1, h2, h3⟩ => hno j h1 (by have := hct 12; omega) h3)).symm), rfl⟩
          ·
            refine G.go hX 3 (apW ct ed q0 q1 q2 q3 q4 q5 q6 q7 q8 q9 q10 q11 q12 q13 q14 q15 q16 q17 q18 q19, 37, [(0, gr 36), (1, gi 12), (2, gi e), (3, gi who), (4, gi i)], [gi 12, gr 39]) rfl trivial ?_
            refine g_aald hX 52 rfl rfl (by omega) rfl ?_
            refine G.go hX 3 (apW ct ed q0 q1 q2 q3 q4 q5 q6 q7 q8 q9 q10 q11 q12 q13 q14 q15 q16 q17 q18 q19, 42, [(0, gr 36), (1, gi 12), (2, gi e), (3, gi who), (4, gi i)], [gi who, gi (q12 i)]) rfl ?_ ?_
            · refine ⟨?_, trivial⟩
              · omega
            refine g_icmp_ne hX 47 rfl rfl (by first | exact hq _ | assumption) (by first | exact hq _ | assumption) (fun b42 => ?_) (fun b42 => ?_)
            ·
              refine G.go hX 2 (apW ct ed q0 q1 q2 q3 q4 q5 q6 q7 q8 q9 q10 q11 q12 q13 q14 q15 q16 q17 q18 q19, 14, [(0, gr 36), (1, gi 12), (2, gi e), (3, gi who), (4, gi (i + 1))], []) rfl trivial ?_
              exact ih14 (i + 1) (by omega) (by intro j h1 h2; by_cases e9 : j = i; (subst e9; omega); exact hno j h1 (by omega)) (by omega)
            ·
              refine G.go hX 1 (apW ct ed q0 q1 q2 q3 q4 q5 q6 q7 q8 q9 q10 q11 q12 q13 q14 q15 q16 q17 q18 q19, 46, [(0, gr 36), (1, gi 12), (2, gi e), (3, gi who), (4, gi i)], [gi 1]) rfl trivial ?_
              exact g_zret hX hE rfl (Or.inr rfl) ⟨(congrArg (fun z => some (gi z)) (gb_t (by exact ⟨b6, i, by omega, by omega, by omega⟩)).symm), rfl⟩
    exact lp14 _ 0 (by omega) (by intro j h1 h2; omega) (Nat.lt_succ_self _)
  ·
    have b6 := gb_nn b6
    refine G.go hX 1 (apW ct ed q0 q1 q2 q3 q4 q5 q6 q7 q8 q9 q10 q11 q12 q13 q14 q15 q16 q17 q18 q19, 10, [(0, gr 36), (1, gi 12), (2, gi e), (3, gi who)], [gi 0]) rfl trivial ?_
    exact g_zret hX hE rfl (Or.inl rfl) ⟨(congrArg (fun z => some (gi z)) (gb_f (by exact fun h9 => b6 h9.1)).symm), rfl⟩
set_option maxHeartbeats 4000000 in
set_option maxRecDepth 100000 in
theorem c_X0_has_13 (l : Launch) (D : va_G) (cA : Nat → ClassId) (ct : Int → Int) (ed : Int → Int) (q0 : Int → Int) (q1 : Int → Int) (q2 : Int → Int) (q3 : Int → Int) (q4 : Int → Int) (q5 : Int → Int) (q6 : Int → Int) (q7 : Int → Int) (q8 : Int → Int) (q9 : Int → Int) (q10 : Int → Int) (q11 : Int → Int) (q12 : Int → Int) (q13 : Int → Int) (q14 : Int → Int) (q15 : Int → Int) (q16 : Int → Int) (q17 : Int → Int) (q18 : Int → Int) (q19 : Int → Int) (e : Int) (who : Int) (hct : ∀ q : Int, 0 ≤ ct q ∧ ct q ≤ 6) (hed : ∀ q : Int, inR (ed q)) (he : inR e) (hq : ∀ j : Int, inR (q13 j)) (hw : inR who) :
    gC l D cA yX0_has mX0_has (some .boolean) 0 0 [gr 36, gi 13, gi e, gi who] (apW ct ed q0 q1 q2 q3 q4 q5 q6 q7 q8 q9 q10 q11 q12 q13 q14 q15 q16 q17 q18 q19) (fun r9 w9 => r9 = some (gi (gb (gLt ct ed 13 e ∧ ∃ j : Int, 0 ≤ j ∧ j < ct 13 ∧ q13 j = who))) ∧ w9 = apW ct ed q0 q1 q2 q3 q4 q5 q6 q7 q8 q9 q10 q11 q12 q13 q14 q15 q16 q17 q18 q19) := by
  refine gC_of rfl kX0_has rfl rfl (Nat.le_of_ble_eq_true rfl) (fun X ad hX hE => ?_)
  refine G.go hX 3 (apW ct ed q0 q1 q2 q3 q4 q5 q6 q7 q8 q9 q10 q11 q12 q13 q14 q15 q16 q17 q18 q19, 3, [(0, gr 36), (1, gi 13), (2, gi e), (3, gi who)], [gi e, gi 13, gr 36]) rfl trivial ?_
  refine G.callV (av := [gi 13, gi e]) (o := 36) (st := []) hX rfl (fun l D cA => c_X0_isLatest l D cA ct ed q0 q1 q2 q3 q4 q5 q6 q7 q8 q9 q10 q11 q12 q13 q14 q15 q16 q17 q18 q19 13 e (by first | assumption | omega) (by first | assumption | omega) (by first | assumption | omega) (by first | assumption | omega)) (by decide +kernel) aX0_isLatest rfl rfl rfl ⟨rfl, rfl⟩ (by decide) (Nat.le_of_ble_eq_true rfl) [0, 1, 2, 3, 4, 5, 6, 7, 8, 9, 10, 11, 12, 13, 14, 15, 16, 17, 18, 19, 20, 21, 22, 23] [] [] rfl rfl rfl (fun r w' hp => ?_)
  obtain ⟨rfl, rfl⟩ := hp
  show G X mX0_has ad 0 0 (apW ct ed q0 q1 q2 q3 q4 q5 q6 q7 q8 q9 q10 q11 q12 q13 q14 q15 q16 q17 q18 q19, 6, [(0, gr 36), (1, gi 13), (2, gi e), (3, gi who)], [gi (gb (gLt ct ed 13 e))])
  refine g_if_ne hX 11 rfl rfl (gb_r _) (fun b6 => ?_) (fun b6 => ?_)
  ·
    have b6 := gb_n0 b6
    refine G.go hX 2 (apW ct ed q0 q1 q2 q3 q4 q5 q6 q7 q8 q9 q10 q11 q12 q13 q14 q15 q16 q17 q18 q19, 14, [(0, gr 36), (1, gi 13), (2, gi e), (3, gi who), (4, gi 0)], []) rfl trivial ?_
    have lp14 : ∀ (n : Nat) (i : Int), (0 ≤ i ∧ i ≤ 6) → (∀ j : Int, 0 ≤ j → j < i → q13 j ≠ who) → (6 - i).toNat < n → G X mX0_has ad 0 0 (apW ct ed q0 q1 q2 q3 q4 q5 q6 q7 q8 q9 q10 q11 q12 q13 q14 q15 q16 q17 q18 q19, 14, [(0, gr 36), (1, gi 13), (2, gi e), (3, gi who), (4, gi i)], []) := by
      intro n
      induction n with
      | zero => intro i hi hno hm9; exact absurd hm9 (Nat.not_lt_zero _)
      | succ n ih14 =>
        intro i hi hno hm14
        refine G.go hX 5 (apW ct ed q0 q1 q2 q3 q4 q5 q6 q7 q8 q9 q10 q11 q12 q13 q14 q15 q16 q17 q18 q19, 22, [(0, gr 36), (1, gi 13), (2, gi e), (3, gi who), (4, gi i)], [gi (ct 13), gi i]) rfl ?_ ?_
        · refine ⟨?_, trivial⟩
          · omega
        refine g_icmp_ge hX 53 rfl rfl ⟨by have := hct 13; omega, by have := hct 13; omega⟩ ⟨by have := hct 13; omega, by have := hct 13; omega⟩ (fun b22 => ?_) (fun b22 => ?_)
        ·
          refine G.go hX 1 (apW ct ed q0 q1 q2 q3 q4 q5 q6 q7 q8 q9 q10 q11 q12 q13 q14 q15 q16 q17 q18 q19, 54, [(0, gr 36), (1, gi 13), (2, gi e), (3, gi who), (4, gi i)], [gi 0]) rfl trivial ?_
          exact g_zret hX hE rfl (Or.inl rfl) ⟨(congrArg (fun z => some (gi z)) (gb_f (by exact fun ⟨_, j, h1, h2, h3⟩ => hno j h1 (by have := hct 13; omega) h3)).symm), rfl⟩
        ·
          refine G.go hX 2 (apW ct ed q0 q1 q2 q3 q4 q5 q6 q7 q8 q9 q10 q11 q12 q13 q14 q15 q16 q17 q18 q19, 29, [(0, gr 36), (1, gi 13), (2, gi e), (3, gi who), (4, gi i)], [gi 6, gi i]) rfl trivial ?_
          refine g_icmp_ge hX 53 rfl rfl ⟨by omega, by omega⟩ ⟨by omega, by omega⟩ (fun b29 => ?_) (fun b29 => ?_)
          ·
            refine G.go hX 1 (apW ct ed q0 q1 q2 q3 q4 q5 q6 q7 q8 q9 q10 q11 q12 q13 q14 q15 q16 q17 q18 q19, 54, [(0, gr 36), (1, gi 13), (2, gi e), (3, gi who), (4, gi i)], [gi 0]) rfl trivial ?_
            exact g_zret hX hE rfl (Or.inl rfl) ⟨(congrArg (fun z => some (gi z)) (gb_f (by exact fun ⟨_, j, h1, h2, h3⟩ => hno j h1 (by have := hct 13; omega) h3)).symm), rfl⟩
          ·
            refine G.go hX 3 (apW ct ed q0 q1 q2 q3 q4 q5 q6 q7 q8 q9 q10 q11 q12 q13 q14 q15 q16 q17 q18 q19, 37, [(0, gr 36), (1, gi 13), (2, gi e), (3, gi who), (4, gi i)], [gi 13, gr 39]) rfl trivial ?_
            refine g_aald hX 53 rfl rfl (by omega) rfl ?_
            refine G.go hX 3 (apW ct ed q0 q1 q2 q3 q4 q5 q6 q7 q8 q9 q10 q11 q12 q13 q14 q15 q16 q17 q18 q19, 42, [(0, gr 36), (1, gi 13), (2, gi e), (3, gi who), (4, gi i)], [gi who, gi (q13 i)]) rfl ?_ ?_
            · refine ⟨?_, trivial⟩
              · omega
            refine g_icmp_ne hX 47 rfl rfl (by first | exact hq _ | assumption) (by first | exact hq _ | assumption) (fun b42 => ?_) (fun b42 => ?_)
            ·
              refine G.go hX 2 (apW ct ed q0 q1 q2 q3 q4 q5 q6 q7 q8 q9 q10 q11 q12 q13 q14 q15 q16 q17 q18 q19, 14, [(0, gr 36), (1, gi 13), (2, gi e), (3, gi who), (4, gi (i + 1))], []) rfl trivial ?_
              exact ih14 (i + 1) (by omega) (by intro j h1 h2; by_cases e9 : j = i; (subst e9; omega); exact hno j h1 (by omega)) (by omega)
            ·
              refine G.go hX 1 (apW ct ed q0 q1 q2 q3 q4 q5 q6 q7 q8 q9 q10 q11 q12 q13 q14 q15 q16 q17 q18 q19, 46, [(0, gr 36), (1, gi 13), (2, gi e), (3, gi who), (4, gi i)], [gi 1]) rfl trivial ?_
              exact g_zret hX hE rfl (Or.inr rfl) ⟨(congrArg (fun z => some (gi z)) (gb_t (by exact ⟨b6, i, by omega, by omega, by omega⟩)).symm), rfl⟩
    exact lp14 _ 0 (by omega) (by intro j h1 h2; omega) (Nat.lt_succ_self _)
  ·
    have b6 := gb_nn b6
    refine G.go hX 1 (apW ct ed q0 q1 q2 q3 q4 q5 q6 q7 q8 q9 q10 q11 q12 q13 q14 q15 q16 q17 q18 q19, 10, [(0, gr 36), (1, gi 13), (2, gi e), (3, gi who)], [gi 0]) rfl trivial ?_
    exact g_zret hX hE rfl (Or.inl rfl) ⟨(congrArg (fun z => some (gi z)) (gb_f (by exact fun h9 => b6 h9.1)).symm), rfl⟩
set_option maxHeartbeats 4000000 in
set_option maxRecDepth 100000 in
theorem c_X0_has_14 (l : Launch) (D : va_G) (cA : Nat → ClassId) (ct : Int → Int) (ed : Int → Int) (q0 : Int → Int) (q1 : Int → Int) (q2 : Int → Int) (q3 : Int → Int) (q4 : Int → Int) (q5 : Int → Int) (q6 : Int → Int) (q7 : Int → Int) (q8 : Int → Int) (q9 : Int → Int) (q10 : Int → Int) (q11 : Int → Int) (q12 : Int → Int) (q13 : Int → Int) (q14 : Int → Int) (q15 : Int → Int) (q16 : Int → Int) (q17 : Int → Int) (q18 : Int → Int) (q19 : Int → Int) (e : Int) (who : Int) (hct : ∀ q : Int, 0 ≤ ct q ∧ ct q ≤ 6) (hed : ∀ q : Int, inR (ed q)) (he : inR e) (hq : ∀ j : Int, inR (q14 j)) (hw : inR who) :
    gC l D cA yX0_has mX0_has (some .boolean) 0 0 [gr 36, gi 14, gi e, gi who] (apW ct ed q0 q1 q2 q3 q4 q5 q6 q7 q8 q9 q10 q11 q12 q13 q14 q15 q16 q17 q18 q19) (fun r9 w9 => r9 = some (gi (gb (gLt ct ed 14 e ∧ ∃ j : Int, 0 ≤ j ∧ j < ct 14 ∧ q14 j = who))) ∧ w9 = apW ct ed q0 q1 q2 q3 q4 q5 q6 q7 q8 q9 q10 q11 q12 q13 q14 q15 q16 q17 q18 q19) := by
  refine gC_of rfl kX0_has rfl rfl (Nat.le_of_ble_eq_true rfl) (fun X ad hX hE => ?_)
  refine G.go hX 3 (apW ct ed q0 q1 q2 q3 q4 q5 q6 q7 q8 q9 q10 q11 q12 q13 q14 q15 q16 q17 q18 q19, 3, [(0, gr 36), (1, gi 14), (2, gi e), (3, gi who)], [gi e, gi 14, gr 36]) rfl trivial ?_
  refine G.callV (av := [gi 14, gi e]) (o := 36) (st := []) hX rfl (fun l D cA => c_X0_isLatest l D cA ct ed q0 q1 q2 q3 q4 q5 q6 q7 q8 q9 q10 q11 q12 q13 q14 q15 q16 q17 q18 q19 14 e (by first | assumption | omega) (by first | assumption | omega) (by first | assumption | omega) (by first | assumption | omega)) (by decide +kernel) aX0_isLatest rfl rfl rfl ⟨rfl, rfl⟩ (by decide) (Nat.le_of_ble_eq_true rfl) [0, 1, 2, 3, 4, 5, 6, 7, 8, 9, 10, 11, 12, 13, 14, 15, 16, 17, 18, 19, 20, 21, 22, 23] [] [] rfl rfl rfl (fun r w' hp => ?_)
  obtain ⟨rfl, rfl⟩ := hp
  show G X mX0_has ad 0 0 (apW ct ed q0 q1 q2 q3 q4 q5 q6 q7 q8 q9 q10 q11 q12 q13 q14 q15 q16 q17 q18 q19, 6, [(0, gr 36), (1, gi 14), (2, gi e), (3, gi who)], [gi (gb (gLt ct ed 14 e))])
  refine g_if_ne hX 11 rfl rfl (gb_r _) (fun b6 => ?_) (fun b6 => ?_)
  ·
    have b6 := gb_n0 b6
    refine G.go hX 2 (apW ct ed q0 q1 q2 q3 q4 q5 q6 q7 q8 q9 q10 q11 q12 q13 q14 q15 q16 q17 q18 q19, 14, [(0, gr 36), (1, gi 14), (2, gi e), (3, gi who), (4, gi 0)], []) rfl trivial ?_
    have lp14 : ∀ (n : Nat) (i : Int), (0 ≤ i ∧ i ≤ 6) → (∀ j : Int, 0 ≤ j → j < i → q14 j ≠ who) → (6 - i).toNat < n → G X mX0_has ad 0 0 (apW ct ed q0 q1 q2 q3 q4 q5 q6 q7 q8 q9 q10 q11 q12 q13 q14 q15 q16 q17 q18 q19, 14, [(0, gr 36), (1, gi 14), (2, gi e), (3, gi who), (4, gi i)], []) := by
      intro n
      induction n with
      | zero => intro i hi hno hm9; exact absurd hm9 (Nat.not_lt_zero _)
      | succ n ih14 =>
        intro i hi hno hm14
        refine G.go hX 5 (apW ct ed q0 q1 q2 q3 q4 q5 q6 q7 q8 q9 q10 q11 q12 q13 q14 q15 q16 q17 q18 q19, 22, [(0, gr 36), (1, gi 14), (2, gi e), (3, gi who), (4, gi i)], [gi (ct 14), gi i]) rfl ?_ ?_
        · refine ⟨?_, trivial⟩
          · omega
        refine g_icmp_ge hX 53 rfl rfl ⟨by have := hct 14; omega, by have := hct 14; omega⟩ ⟨by have := hct 14; omega, by have := hct 14; omega⟩ (fun b22 => ?_) (fun b22 => ?_)
        ·
          refine G.go hX 1 (apW ct ed q0 q1 q2 q3 q4 q5 q6 q7 q8 q9 q10 q11 q12 q13 q14 q15 q16 q17 q18 q19, 54, [(0, gr 36), (1, gi 14), (2, gi e), (3, gi who), (4, gi i)], [gi 0]) rfl trivial ?_
          exact g_zret hX hE rfl (Or.inl rfl) ⟨(congrArg (fun z => some (gi z)) (gb_f (by exact fun ⟨_, j, h1, h2, h3⟩ => hno j h1 (by have := hct 14; omega) h3)).symm), rfl⟩
        ·
          refine G.go hX 2 (apW ct ed q0 q1 q2 q3 q4 q5 q6 q7 q8 q9 q10 q11 q12 q13 q14 q15 q16 q17 q18 q19, 29, [(0, gr 36), (1, gi 14), (2, gi e), (3, gi who), (4, gi i)], [gi 6, gi i]) rfl trivial ?_
          refine g_icmp_ge hX 53 rfl rfl ⟨by omega, by omega⟩ ⟨by omega, by omega⟩ (fun b29 => ?_) (fun b29 => ?_)
          ·
            refine G.go hX 1 (apW ct ed q0 q1 q2 q3 q4 q5 q6 q7 q8 q9 q10 q11 q12 q13 q14 q15 q16 q17 q18 q19, 54, [(0, gr 36), (1, gi 14), (2, gi e), (3, gi who), (4, gi i)], [gi 0]) rfl trivial ?_
            exact g_zret hX hE rfl (Or.inl rfl) ⟨(congrArg (fun z => some (gi z)) (gb_f (by exact fun ⟨_, j, h1, h2, h3⟩ => hno j h1 (by have := hct 14; omega) h3)).symm), rfl⟩
          ·
            refine G.go hX 3 (apW ct ed q0 q1 q2 q3 q4 q5 q6 q7 q8 q9 q10 q11 q12 q13 q14 q15 q16 q17 q18 q19, 37, [(0, gr 36), (1, gi 14), (2, gi e), (3, gi who), (4, gi i)], [gi 14, gr 39]) rfl trivial ?_
            refine g_aald hX 54 rfl rfl (by omega) rfl ?_
            refine G.go hX 3 (apW ct ed q0 q1 q2 q3 q4 q5 q6 q7 q8 q9 q10 q11 q12 q13 q14 q15 q16 q17 q18 q19, 42, [(0, gr 36), (1, gi 14), (2, gi e), (3, gi who), (4, gi i)], [gi who, gi (q14 i)]) rfl ?_ ?_
            · refine ⟨?_, trivial⟩
              · omega
            refine g_icmp_ne hX 47 rfl rfl (by first | exact hq _ | assumption) (by first | exact hq _ | assumption) (fun b42 => ?_) (fun b42 => ?_)
            ·
              refine G.go hX 2 (apW ct ed q0 q1 q2 q3 q4 q5 q6 q7 q8 q9 q10 q11 q12 q13 q14 q15 q16 q17 q18 q19, 14, [(0, gr 36), (1, gi 14), (2, gi e), (3, gi who), (4, gi (i + 1))], []) rfl trivial ?_
              exact ih14 (i + 1) (by omega) (by intro j h1 h2; by_cases e9 : j = i; (subst e9; omega); exact hno j h1 (by omega)) (by omega)
            ·
              refine G.go hX 1 (apW ct ed q0 q1 q2 q3 q4 q5 q6 q7 q8 q9 q10 q11 q12 q13 q14 q15 q16 q17 q18 q19, 46, [(0, gr 36), (1, gi 14), (2, gi e), (3, gi who), (4, gi i)], [gi 1]) rfl trivial ?_
              exact g_zret hX hE rfl (Or.inr rfl) ⟨(congrArg (fun z => some (gi z)) (gb_t (by exact ⟨b6, i, by omega, by omega, by omega⟩)).symm), rfl⟩
    exact lp14 _ 0 (by omega) (by intro j h1 h2; omega) (Nat.lt_succ_self _)
  ·
    have b6 := gb_nn b6
    refine G.go hX 1 (apW ct ed q0 q1 q2 q3 q4 q5 q6 q7 q8 q9 q10 q11 q12 q13 q14 q15 q16 q17 q18 q19, 10, [(0, gr 36), (1, gi 14), (2, gi e), (3, gi who)], [gi 0]) rfl trivial ?_
    exact g_zret hX hE rfl (Or.inl rfl) ⟨(congrArg (fun z => some (gi z)) (gb_f (by exact fun h9 => b6 h9.1)).symm), rfl⟩
set_option maxHeartbeats 4000000 in
set_option maxRecDepth 100000 in
theorem c_X0_has_15 (l : Launch) (D : va_G) (cA : Nat → ClassId) (ct : Int → Int) (ed : Int → Int) (q0 : Int → Int) (q1 : Int → Int) (q2 : Int → Int) (q3 : Int → Int) (q4 : Int → Int) (q5 : Int → Int) (q6 : Int → Int) (q7 : Int → Int) (q8 : Int → Int) (q9 : Int → Int) (q10 : Int → Int) (q11 : Int → Int) (q12 : Int → Int) (q13 : Int → Int) (q14 : Int → Int) (q15 : Int → Int) (q16 : Int → Int) (q17 : Int → Int) (q18 : Int → Int) (q19 : Int → Int) (e : Int) (who : Int) (hct : ∀ q : Int, 0 ≤ ct q ∧ ct q ≤ 6) (hed : ∀ q : Int, inR (ed q)) (he : inR e) (hq : ∀ j : Int, inR (q15 j)) (hw : inR who) :
    gC l D cA yX0_has mX0_has (some .boolean) 0 0 [gr 36, gi 15, gi e, gi who] (apW ct ed q0 q1 q2 q3 q4 q5 q6 q7 q8 q9 q10 q11 q12 q13 q14 q15 q16 q17 q18 q19) (fun r9 w9 => r9 = some (gi (gb (gLt ct ed 15 e ∧ ∃ j : Int, 0 ≤ j ∧ j < ct 15 ∧ q15 j = who))) ∧ w9 = apW ct ed q0 q1 q2 q3 q4 q5 q6 q7 q8 q9 q10 q11 q12 q13 q14 q15 q16 q17 q18 q19) := by
  refine gC_of rfl kX0_has rfl rfl (Nat.le_of_ble_eq_true rfl) (fun X ad hX hE => ?_)
  refine G.go hX 3 (apW ct ed q0 q1 q2 q3 q4 q5 q6 q7 q8 q9 q10 q11 q12 q13 q14 q15 q16 q17 q18 q19, 3, [(0, gr 36), (1, gi 15), (2, gi e), (3, gi who)], [gi e, gi 15, gr 36]) rfl trivial ?_
  refine G.callV (av := [gi 15, gi e]) (o := 36) (st := []) hX rfl (fun l D cA => c_X0_isLatest l D cA ct ed q0 q1 q2 q3 q4 q5 q6 q7 q8 q9 q10 q11 q12 q13 q14 q15 q16 q17 q18 q19 15 e (by first | assumption | omega) (by first | assumption | omega) (by first | assumption | omega) (by first | assumption | omega)) (by decide +kernel) aX0_isLatest rfl rfl rfl ⟨rfl, rfl⟩ (by decide) (Nat.le_of_ble_eq_true rfl) [0, 1, 2, 3, 4, 5, 6, 7, 8, 9, 10, 11, 12, 13, 14, 15, 16, 17, 18, 19, 20, 21, 22, 23] [] [] rfl rfl rfl (fun r w' hp => ?_)
  obtain ⟨rfl, rfl⟩ := hp
  show G X mX0_has ad 0 0 (apW ct ed q0 q1 q2 q3 q4 q5 q6 q7 q8 q9 q10 q11 q12 q13 q14 q15 q16 q17 q18 q19, 6, [(0, gr 36), (1, gi 15), (2, gi e), (3, gi who)], [gi (gb (gLt ct ed 15 e))])
  refine g_if_ne hX 11 rfl rfl (gb_r _) (fun b6 => ?_) (fun b6 => ?_)
  ·
    have b6 := gb_n0 b6
    refine G.go hX 2 (apW ct ed q0 q1 q2 q3 q4 q5 q6 q7 q8 q9 q10 q11 q12 q13 q14 q15 q16 q17 q18 q19, 14, [(0, gr 36), (1, gi 15), (2, gi e), (3, gi who), (4, gi 0)], []) rfl trivial ?_
    have lp14 : ∀ (n : Nat) (i : Int), (0 ≤ i ∧ i ≤ 6) → (∀ j : Int, 0 ≤ j → j < i → q15 j ≠ who) → (6 - i).toNat < n → G X mX0_has ad 0 0 (apW ct ed q0 q1 q2 q3 q4 q5 q6 q7 q8 q9 q10 q11 q12 q13 q14 q15 q16 q17 q18 q19, 14, [(0, gr 36), (1, gi 15), (2, gi e), (3, gi who), (4, gi i)], []) := by
      intro n
      induction n with
      | zero => intro i hi hno hm9; exact absurd hm9 (Nat.not_lt_zero _)
      | succ n ih14 =>
        intro i hi hno hm14
        refine G.go hX 5 (apW ct ed q0 q1 q2 q3 q4 q5 q6 q7 q8 q9 q10 q11 q12 q13 q14 q15 q16 q17 q18 q19, 22, [(0, gr 36), (1, gi 15), (2, gi e), (3, gi who), (4, gi i)], [gi (ct 15), gi i]) rfl ?_ ?_
        · refine ⟨?_, trivial⟩
          · omega
        refine g_icmp_ge hX 53 rfl rfl ⟨by have := hct 15; omega, by have := hct 15; omega⟩ ⟨by have := hct 15; omega, by have := hct 15; omega⟩ (fun b22 => ?_) (fun b22 => ?_)
        ·
          refine G.go hX 1 (apW ct ed q0 q1 q2 q3 q4 q5 q6 q7 q8 q9 q10 q11 q12 q13 q14 q15 q16 q17 q18 q19, 54, [(0, gr 36), (1, gi 15), (2, gi e), (3, gi who), (4, gi i)], [gi 0]) rfl trivial ?_
          exact g_zret hX hE rfl (Or.inl rfl) ⟨(congrArg (fun z => some (gi z)) (gb_f (by exact fun ⟨_, j, h1, h2, h3⟩ => hno j h1 (by have := hct 15; omega) h3)).symm), rfl⟩
        ·
          refine G.go hX 2 (apW ct ed q0 q1 q2 q3 q4 q5 q6 q7 q8 q9 q10 q11 q12 q13 q14 q15 q16 q17 q18 q19, 29, [(0, gr 36), (1, gi 15), (2, gi e), (3, gi who), (4, gi i)], [gi 6, gi i]) rfl trivial ?_
          refine g_icmp_ge hX 53 rfl rfl ⟨by omega, by omega⟩ ⟨by omega, by omega⟩ (fun b29 => ?_) (fun b29 => ?_)
          ·
            refine G.go hX 1 (apW ct ed q0 q1 q2 q3 q4 q5 q6 q7 q8 q9 q10 q11 q12 q13 q14 q15 q16 q17 q18 q19, 54, [(0, gr 36), (1, gi 15), (2, gi e), (3, gi who), (4, gi i)], [gi 0]) rfl trivial ?_
            exact g_zret hX hE rfl (Or.inl rfl) ⟨(congrArg (fun z => some (gi z)) (gb_f (by exact fun ⟨_, j, h1, h2, h3⟩ => hno j h1 (by have := hct 15; omega) h3)).symm), rfl⟩
          ·
            refine G.go hX 3 (apW ct ed q0 q1 q2 q3 q4 q5 q6 q7 q8 q9 q10 q11 q12 q13 q14 q15 q16 q17 q18 q19, 37, [(0, gr 36), (1, gi 15), (2, gi e), (3, gi who), (4, gi i)], [gi 15, gr 39]) rfl trivial ?_
            refine g_aald hX 55 rfl rfl (by omega) rfl ?_
            refine G.go hX 3 (apW ct ed q0 q1 q2 q3 q4 q5 q6 q7 q8 q9 q10 q11 q12 q13 q14 q15 q16 q17 q18 q19, 42, [(0, gr 36), (1, gi 15), (2, gi e), (3, gi who), (4, gi i)], [gi who, gi (q15 i)]) rfl ?_ ?_
            · refine ⟨?_, trivial⟩
              · omega
            refine g_icmp_ne hX 47 rfl rfl (by first | exact hq _ | assumption) (by first | exact hq _ | assumption) (fun b42 => ?_) (fun b42 => ?_)
            ·
              refine G.go hX 2 (apW ct ed q0 q1 q2 q3 q4 q5 q6 q7 q8 q9 q10 q11 q12 q13 q14 q15 q16 q17 q18 q19, 14, [(0, gr 36), (1, gi 15), (2, gi e), (3, gi who), (4, gi (i + 1))], []) rfl trivial ?_
              exact ih14 (i + 1) (by omega) (by intro j h1 h2; by_cases e9 : j = i; (subst e9; omega); exact hno j h1 (by omega)) (by omega)
            ·
              refine G.go hX 1 (apW ct ed q0 q1 q2 q3 q4 q5 q6 q7 q8 q9 q10 q11 q12 q13 q14 q15 q16 q17 q18 q19, 46, [(0, gr 36), (1, gi 15), (2, gi e), (3, gi who), (4, gi i)], [gi 1]) rfl trivial ?_
              exact g_zret hX hE rfl (Or.inr rfl) ⟨(congrArg (fun z => some (gi z)) (gb_t (by exact ⟨b6, i, by omega, by omega, by omega⟩)).symm), rfl⟩
    exact lp14 _ 0 (by omega) (by intro j h1 h2; omega) (Nat.lt_succ_self _)
  ·
    have b6 := gb_nn b6
    refine G.go hX 1 (apW ct ed q0 q1 q2 q3 q4 q5 q6 q7 q8 q9 q10 q11 q12 q13 q14 q15 q16 q17 q18 q19, 10, [(0, gr 36), (1, gi 15), (2, gi e), (3, gi who)], [gi 0]) rfl trivial ?_
    exact g_zret hX hE rfl (Or.inl rfl) ⟨(congrArg (fun z => some (gi z)) (gb_f (by exact fun h9 => b6 h9.1)).symm), rfl⟩
set_option maxHeartbeats 4000000 in
set_option maxRecDepth 100000 in
theorem c_X0_has_16 (l : Launch) (D : va_G) (cA : Nat → ClassId) (ct : Int → Int) (ed : Int → Int) (q0 : Int → Int) (q1 : Int → Int) (q2 : Int → Int) (q3 : Int → Int) (q4 : Int → Int) (q5 : Int → Int) (q6 : Int → Int) (q7 : Int → Int) (q8 : Int → Int) (q9 : Int → Int) (q10 : Int → Int) (q11 : Int → Int) (q12 : Int → Int) (q13 : Int → Int) (q14 : Int → Int) (q15 : Int → Int) (q16 : Int → Int) (q17 : Int → Int) (q18 : Int → Int) (q19 : Int → Int) (e : Int) (who : Int) (hct : ∀ q : Int, 0 ≤ ct q ∧ ct q ≤ 6) (hed : ∀ q : Int, inR (ed q)) (he : inR e) (hq : ∀ j : Int, inR (q16 j)) (hw : inR who) :
    gC l D cA yX0_has mX0_has (some .boolean) 0 0 [gr 36, gi 16, gi e, gi who] (apW ct ed q0 q1 q2 q3 q4 q5 q6 q7 q8 q9 q10 q11 q12 q13 q14 q15 q16 q17 q18 q19) (fun r9 w9 => r9 = some (gi (gb (gLt ct ed 16 e ∧ ∃ j : Int, 0 ≤ j ∧ j < ct 16 ∧ q16 j = who))) ∧ w9 = apW ct ed q0 q1 q2 q3 q4 q5 q6 q7 q8 q9 q10 q11 q12 q13 q14 q15 q16 q17 q18 q19) := by
  refine gC_of rfl kX0_has rfl rfl (Nat.le_of_ble_eq_true rfl) (fun X ad hX hE => ?_)
  refine G.go hX 3 (apW ct ed q0 q1 q2 q3 q4 q5 q6 q7 q8 q9 q10 q11 q12 q13 q14 q15 q16 q17 q18 q19, 3, [(0, gr 36), (1, gi 16), (2, gi e), (3, gi who)], [gi e, gi 16, gr 36]) rfl trivial ?_
  refine G.callV (av := [gi 16, gi e]) (o := 36) (st := []) hX rfl (fun l D cA => c_X0_isLatest l D cA ct ed q0 q1 q2 q3 q4 q5 q6 q7 q8 q9 q10 q11 q12 q13 q14 q15 q16 q17 q18 q19 16 e (by first | assumption | omega) (by first | assumption | omega) (by first | assumption | omega) (by first | assumption | omega)) (by decide +kernel) aX0_isLatest rfl rfl rfl ⟨rfl, rfl⟩ (by decide) (Nat.le_of_ble_eq_true rfl) [0, 1, 2, 3, 4, 5, 6, 7, 8, 9, 10, 11, 12, 13, 14, 15, 16, 17, 18, 19, 20, 21, 22, 23] [] [] rfl rfl rfl (fun r w' hp => ?_)
  obtain ⟨rfl, rfl⟩ := hp
  show G X mX0_has ad 0 0 (apW ct ed q0 q1 q2 q3 q4 q5 q6 q7 q8 q9 q10 q11 q12 q13 q14 q15 q16 q17 q18 q19, 6, [(0, gr 36), (1, gi 16), (2, gi e), (3, gi who)], [gi (gb (gLt ct ed 16 e))])
  refine g_if_ne hX 11 rfl rfl (gb_r _) (fun b6 => ?_) (fun b6 => ?_)
  ·
    have b6 := gb_n0 b6
    refine G.go hX 2 (apW ct ed q0 q1 q2 q3 q4 q5 q6 q7 q8 q9 q10 q11 q12 q13 q14 q15 q16 q17 q18 q19, 14, [(0, gr 36), (1, gi 16), (2, gi e), (3, gi who), (4, gi 0)], []) rfl trivial ?_
    have lp14 : ∀ (n : Nat) (i : Int), (0 ≤ i ∧ i ≤ 6) → (∀ j : Int, 0 ≤ j → j < i → q16 j ≠ who) → (6 - i).toNat < n → G X mX0_has ad 0 0 (apW ct ed q0 q1 q2 q3 q4 q5 q6 q7 q8 q9 q10 q11 q12 q13 q14 q15 q16 q17 q18 q19, 14, [(0, gr 36), (1, gi 16), (2, gi e), (3, gi who), (4, gi i)], []) := by
      intro n
      induction n with
      | zero => intro i hi hno hm9; exact absurd hm9 (Nat.not_lt_zero _)
      | succ n ih14 =>
        intro i hi hno hm14
        refine G.go hX 5 (apW ct ed q0 q1 q2 q3 q4 q5 q6 q7 q8 q9 q10 q11 q12 q13 q14 q15 q16 q17 q18 q19, 22, [(0, gr 36), (1, gi 16), (2, gi e), (3, gi who), (4, gi i)], [gi (ct 16), gi i]) rfl ?_ ?_
        · refine ⟨?_, trivial⟩
          · omega
        refine g_icmp_ge hX 53 rfl rfl ⟨by have := hct 16; omega, by have := hct 16; omega⟩ ⟨by have := hct 16; omega, by have := hct 16; omega⟩ (fun b22 => ?_) (fun b22 => ?_)
        ·
          refine G.go hX 1 (apW ct ed q0 q1 q2 q3 q4 q5 q6 q7 q8 q9 q10 q11 q12 q13 q14 q15 q16 q17 q18 q19, 54, [(0, gr 36), (1, gi 16), (2, gi e), (3, gi who), (4, gi i)], [gi 0]) rfl trivial ?_
          exact g_zret hX hE rfl (Or.inl rfl) ⟨(congrArg (fun z => some (gi z)) (gb_f (by exact fun ⟨_, j, h1, h2, h3⟩ => hno j h1 (by have := hct 16; omega) h3)).symm), rfl⟩
        ·
          refine G.go hX 2 (apW ct ed q0 q1 q2 q3 q4 q5 q6 q7 q8 q9 q10 q11 q12 q13 q14 q15 q16 q17 q18 q19, 29, [(0, gr 36), (1, gi 16), (2, gi e), (3, gi who), (4, gi i)], [gi 6, gi i]) rfl trivial ?_
          refine g_icmp_ge hX 53 rfl rfl ⟨by omega, by omega⟩ ⟨by omega, by omega⟩ (fun b29 => ?_) (fun b29 => ?_)
          ·
            refine G.go hX 1 (apW ct ed q0 q1 q2 q3 q4 q5 q6 q7 q8 q9 q10 q11 q12 q13 q14 q15 q16 q17 q18 q19, 54, [(0, gr 36), (1, gi 16), (2, gi e), (3, gi who), (4, gi i)], [gi 0]) rfl trivial ?_
            exact g_zret hX hE rfl (Or.inl rfl) ⟨(congrArg (fun z => some (gi z)) (gb_f (by exact fun ⟨_, j, h1, h2, h3⟩ => hno j h1 (by have := hct 16; omega) h3)).symm), rfl⟩
          ·
            refine G.go hX 3 (apW ct ed q0 q1 q2 q3 q4 q5 q6 q7 q8 q9 q10 q11 q12 q13 q14 q15 q16 q17 q18 q19, 37, [(0, gr 36), (1, gi 16), (2, gi e), (3, gi who), (4, gi i)], [gi 16, gr 39]) rfl trivial ?_
            refine g_aald hX 56 rfl rfl (by omega) rfl ?_
            refine G.go hX 3 (apW ct ed q0 q1 q2 q3 q4 q5 q6 q7 q8 q9 q10 q11 q12 q13 q14 q15 q16 q17 q18 q19, 42, [(0, gr 36), (1, gi 16), (2, gi e), (3, gi who), (4, gi i)], [gi who, gi (q16 i)]) rfl ?_ ?_
            · refine ⟨?_, trivial⟩
              · omega
            refine g_icmp_ne hX 47 rfl rfl (by first | exact hq _ | assumption) (by first | exact hq _ | assumption) (fun b42 => ?_) (fun b42 => ?_)
            ·
              refine G.go hX 2 (apW ct ed q0 q1 q2 q3 q4 q5 q6 q7 q8 q9 q10 q11 q12 q13 q14 q15 q16 q17 q18 q19, 14, [(0, gr 36), (1, gi 16), (2, gi e), (3, gi who), (4, gi (i + 1))], []) rfl trivial ?_
              exact ih14 (i + 1) (by omega) (by intro j h1 h2; by_cases e9 : j = i; (subst e9; omega); exact hno j h1 (by omega)) (by omega)
            ·
              refine G.go hX 1 (apW ct ed q0 q1 q2 q3 q4 q5 q6 q7 q8 q9 q10 q11 q12 q13 q14 q15 q16 q17 q18 q19, 46, [(0, gr 36), (1, gi 16), (2, gi e), (3, gi who), (4, gi i)], [gi 1]) rfl trivial ?_
              exact g_zret hX hE rfl (Or.inr rfl) ⟨(congrArg (fun z => some (gi z)) (gb_t (by exact ⟨b6, i, by omega, by omega, by omega⟩)).symm), rfl⟩
    exact lp14 _ 0 (by omega) (by intro j h1 h2; omega) (Nat.lt_succ_self _)
  ·
    have b6 := gb_nn b6
    refine G.go hX 1 (apW ct ed q0 q1 q2 q3 q4 q5 q6 q7 q8 q9 q10 q11 q12 q13 q14 q15 q16 q17 q18 q19, 10, [(0, gr 36), (1, gi 16), (2, gi e), (3, gi who)], [gi 0]) rfl trivial ?_
    exact g_zret hX hE rfl (Or.inl rfl) ⟨(congrArg (fun z => some (gi z)) (gb_f (by exact fun h9 => b6 h9.1)).symm), rfl⟩
set_option maxHeartbeats 4000000 in
set_option maxRecDepth 100000 in
theorem c_X0_has_17 (l : Launch) (D : va_G) (cA : Nat → ClassId) (ct : Int → Int) (ed : Int → Int) (q0 : Int → Int) (q1 : Int → Int) (q2 : Int → Int) (q3 : Int → Int) (q4 : Int → Int) (q5 : Int → Int) (q6 : Int → Int) (q7 : Int → Int) (q8 : Int → Int) (q9 : Int → Int) (q10 : Int → Int) (q11 : Int → Int) (q12 : Int → Int) (q13 : Int → Int) (q14 : Int → Int) (q15 : Int → Int) (q16 : Int → Int) (q17 : Int → Int) (q18 : Int → Int) (q19 : Int → Int) (e : Int) (who : Int) (hct : ∀ q : Int, 0 ≤ ct q ∧ ct q ≤ 6) (hed : ∀ q : Int, inR (ed q)) (he : inR e) (hq : ∀ j : Int, inR (q17 j)) (hw : inR who) :
    gC l D cA yX0_has mX0_has (some .boolean) 0 0 [gr 36, gi 17, gi e, gi who] (apW ct ed q0 q1 q2 q3 q4 q5 q6 q7 q8 q9 q10 q11 q12 q13 q14 q15 q16 q17 q18 q19) (fun r9 w9 => r9 = some (gi (gb (gLt ct ed 17 e ∧ ∃ j : Int, 0 ≤ j ∧ j < ct 17 ∧ q17 j = who))) ∧ w9 = apW ct ed q0 q1 q2 q3 q4 q5 q6 q7 q8 q9 q10 q11 q12 q13 q14 q15 q16 q17 q18 q19) := by
  refine gC_of rfl kX0_has rfl rfl (Nat.le_of_ble_eq_true rfl) (fun X ad hX hE => ?_)
  refine G.go hX 3 (apW ct ed q0 q1 q2 q3 q4 q5 q6 q7 q8 q9 q10 q11 q12 q13 q14 q15 q16 q17 q18 q19, 3, [(0, gr 36), (1, gi 17), (2, gi e), (3, gi who)], [gi e, gi 17, gr 36]) rfl trivial ?_
  refine G.callV (av := [gi 17, gi e]) (o := 36) (st := []) hX rfl (fun l D cA => c_X0_isLatest l D cA ct ed q0 q1 q2 q3 q4 q5 q6 q7 q8 q9 q10 q11 q12 q13 q14 q15 q16 q17 q18 q19 17 e (by first | assumption | omega) (by first | assumption | omega) (by first | assumption | omega) (by first | assumption | omega)) (by decide +kernel) aX0_isLatest rfl rfl rfl ⟨rfl, rfl⟩ (by decide) (Nat.le_of_ble_eq_true rfl) [0, 1, 2, 3, 4, 5, 6, 7, 8, 9, 10, 11, 12, 13, 14, 15, 16, 17, 18, 19, 20, 21, 22, 23] [] [] rfl rfl rfl (fun r w' hp => ?_)
  obtain ⟨rfl, rfl⟩ := hp
  show G X mX0_has ad 0 0 (apW ct ed q0 q1 q2 q3 q4 q5 q6 q7 q8 q9 q10 q11 q12 q13 q14 q15 q16 q17 q18 q19, 6, [(0, gr 36), (1, gi 17), (2, gi e), (3, gi who)], [gi (gb (gLt ct ed 17 e))])
  refine g_if_ne hX 11 rfl rfl (gb_r _) (fun b6 => ?_) (fun b6 => ?_)
  ·
    have b6 := gb_n0 b6
    refine G.go hX 2 (apW ct ed q0 q1 q2 q3 q4 q5 q6 q7 q8 q9 q10 q11 q12 q13 q14 q15 q16 q17 q18 q19, 14, [(0, gr 36), (1, gi 17), (2, gi e), (3, gi who), (4, gi 0)], []) rfl trivial ?_
    have lp14 : ∀ (n : Nat) (i : Int), (0 ≤ i ∧ i ≤ 6) → (∀ j : Int, 0 ≤ j → j < i → q17 j ≠ who) → (6 - i).toNat < n → G X mX0_has ad 0 0 (apW ct ed q0 q1 q2 q3 q4 q5 q6 q7 q8 q9 q10 q11 q12 q13 q14 q15 q16 q17 q18 q19, 14, [(0, gr 36), (1, gi 17), (2, gi e), (3, gi who), (4, gi i)], []) := by
      intro n
      induction n with
      | zero => intro i hi hno hm9; exact absurd hm9 (Nat.not_lt_zero _)
      | succ n ih14 =>
        intro i hi hno hm14
        refine G.go hX 5 (apW ct ed q0 q1 q2 q3 q4 q5 q6 q7 q8 q9 q10 q11 q12 q13 q14 q15 q16 q17 q18 q19, 22, [(0, gr 36), (1, gi 17), (2, gi e), (3, gi who), (4, gi i)], [gi (ct 17), gi i]) rfl ?_ ?_
        · refine ⟨?_, trivial⟩
          · omega
        refine g_icmp_ge hX 53 rfl rfl ⟨by have := hct 17; omega, by have := hct 17; omega⟩ ⟨by have := hct 17; omega, by have := hct 17; omega⟩ (fun b22 => ?_) (fun b22 => ?_)
        ·
          refine G.go hX 1 (apW ct ed q0 q1 q2 q3 q4 q5 q6 q7 q8 q9 q10 q11 q12 q13 q14 q15 q16 q17 q18 q19, 54, [(0, gr 36), (1, gi 17), (2, gi e), (3, gi who), (4, gi i)], [gi 0]) rfl trivial ?_
          exact g_zret hX hE rfl (Or.inl rfl) ⟨(congrArg (fun z => some (gi z)) (gb_f (by exact fun ⟨_, j, h1, h2, h3⟩ => hno j h1 (by have := hct 17; omega) h3)).symm), rfl⟩
        ·
          refine G.go hX 2 (apW ct ed q0 q1 q2 q3 q4 q5 q6 q7 q8 q9 q10 q11 q12 q13 q14 q15 q16 q17 q18 q19, 29, [(0, gr 36), (1, gi 17), (2, gi e), (3, gi who), (4, gi i)], [gi 6, gi i]) rfl trivial ?_
          refine g_icmp_ge hX 53 rfl rfl ⟨by omega, by omega⟩ ⟨by omega, by omega⟩ (fun b29 => ?_) (fun b29 => ?_)
          ·
            refine G.go hX 1 (apW ct ed q0 q1 q2 q3 q4 q5 q6 q7 q8 q9 q10 q11 q12 q13 q14 q15 q16 q17 q18 q19, 54, [(0, gr 36), (1, gi 17), (2, gi e), (3, gi who), (4, gi i)], [gi 0]) rfl trivial ?_
            exact g_zret hX hE rfl (Or.inl rfl) ⟨(congrArg (fun z => some (gi z)) (gb_f (by exact fun ⟨_, j, h1, h2, h3⟩ => hno j h1 (by have := hct 17; omega) h3)).symm), rfl⟩
          ·
            refine G.go hX 3 (apW ct ed q0 q1 q2 q3 q4 q5 q6 q7 q8 q9 q10 q11 q12 q13 q14 q15 q16 q17 q18 q19, 37, [(0, gr 36), (1, gi 17), (2, gi e), (3, gi who), (4, gi i)], [gi 17, gr 39]) rfl trivial ?_
            refine g_aald hX 57 rfl rfl (by omega) rfl ?_
            refine G.go hX 3 (apW ct ed q0 q1 q2 q3 q4 q5 q6 q7 q8 q9 q10 q11 q12 q13 q14 q15 q16 q17 q18 q19, 42, [(0, gr 36), (1, gi 17), (2, gi e), (3, gi who), (4, gi i)], [gi who, gi (q17 i)]) rfl ?_ ?_
            · refine ⟨?_, trivial⟩
              · omega
            refine g_icmp_ne hX 47 rfl rfl (by first | exact hq _ | assumption) (by first | exact hq _ | assumption) (fun b42 => ?_) (fun b42 => ?_)
            ·
              refine G.go hX 2 (apW ct ed q0 q1 q2 q3 q4 q5 q6 q7 q8 q9 q10 q11 q12 q13 q14 q15 q16 q17 q18 q19, 14, [(0, gr 36), (1, gi 17), (2, gi e), (3, gi who), (4, gi (i + 1))], []) rfl trivial ?_
              exact ih14 (i + 1) (by omega) (by intro j h1 h2; by_cases e9 : j = i; (subst e9; omega); exact hno j h1 (by omega)) (by omega)
            ·
              refine G.go hX 1 (apW ct ed q0 q1 q2 q3 q4 q5 q6 q7 q8 q9 q10 q11 q12 q13 q14 q15 q16 q17 q18 q19, 46, [(0, gr 36), (1, gi 17), (2, gi e), (3, gi who), (4, gi i)], [gi 1]) rfl trivial ?_
              exact g_zret hX hE rfl (Or.inr rfl) ⟨(congrArg (fun z => some (gi z)) (gb_t (by exact ⟨b6, i, by omega, by omega, by omega⟩)).symm), rfl⟩
    exact lp14 _ 0 (by omega) (by intro j h1 h2; omega) (Nat.lt_succ_self _)
  ·
    have b6 := gb_nn b6
    refine G.go hX 1 (apW ct ed q0 q1 q2 q3 q4 q5 q6 q7 q8 q9 q10 q11 q12 q13 q14 q15 q16 q17 q18 q19, 10, [(0, gr 36), (1, gi 17), (2, gi e), (3, gi who)], [gi 0]) rfl trivial ?_
    exact g_zret hX hE rfl (Or.inl rfl) ⟨(congrArg (fun z => some (gi z)) (gb_f (by exact fun h9 => b6 h9.1)).symm), rfl⟩
set_option maxHeartbeats 4000000 in
set_option maxRecDepth 100000 in
theorem c_X0_has_18 (l : Launch) (D : va_G) (cA : Nat → ClassId) (ct : Int → Int) (ed : Int → Int) (q0 : Int → Int) (q1 : Int → Int) (q2 : Int → Int) (q3 : Int → Int) (q4 : Int → Int) (q5 : Int → Int) (q6 : Int → Int) (q7 : Int → Int) (q8 : Int → Int) (q9 : Int → Int) (q10 : Int → Int) (q11 : Int → Int) (q12 : Int → Int) (q13 : Int → Int) (q14 : Int → Int) (q15 : Int → Int) (q16 : Int → Int) (q17 : Int → Int) (q18 : Int → Int) (q19 : Int → Int) (e : Int) (who : Int) (hct : ∀ q : Int, 0 ≤ ct q ∧ ct q ≤ 6) (hed : ∀ q : Int, inR (ed q)) (he : inR e) (hq : ∀ j : Int, inR (q18 j)) (hw : inR who) :
    gC l D cA yX0_has mX0_has (some .boolean) 0 0 [gr 36, gi 18, gi e, gi who] (apW ct ed q0 q1 q2 q3 q4 q5 q6 q7 q8 q9 q10 q11 q12 q13 q14 q15 q16 q17 q18 q19) (fun r9 w9 => r9 = some (gi (gb (gLt ct ed 18 e ∧ ∃ j : Int, 0 ≤ j ∧ j < ct 18 ∧ q18 j = who))) ∧ w9 = apW ct ed q0 q1 q2 q3 q4 q5 q6 q7 q8 q9 q10 q11 q12 q13 q14 q15 q16 q17 q18 q19) := by
  refine gC_of rfl kX0_has rfl rfl (Nat.le_of_ble_eq_true rfl) (fun X ad hX hE => ?_)
  refine G.go hX 3 (apW ct ed q0 q1 q2 q3 q4 q5 q6 q7 q8 q9 q10 q11 q12 q13 q14 q15 q16 q17 q18 q19, 3, [(0, gr 36), (1, gi 18), (2, gi e), (3, gi who)], [gi e, gi 18, gr 36]) rfl trivial ?_
  refine G.callV (av := [gi 18, gi e]) (o := 36) (st := []) hX rfl (fun l D cA => c_X0_isLatest l D cA ct ed q0 q1 q2 q3 q4 q5 q6 q7 q8 q9 q10 q11 q12 q13 q14 q15 q16 q17 q18 q19 18 e (by first | assumption | omega) (by first | assumption | omega) (by first | assumption | omega) (by first | assumption | omega)) (by decide +kernel) aX0_isLatest rfl rfl rfl ⟨rfl, rfl⟩ (by decide) (Nat.le_of_ble_eq_true rfl) [0, 1, 2, 3, 4, 5, 6, 7, 8, 9, 10, 11, 12, 13, 14, 15, 16, 17, 18, 19, 20, 21, 22, 23] [] [] rfl rfl rfl (fun r w' hp => ?_)
  obtain ⟨rfl, rfl⟩ := hp
  show G X mX0_has ad 0 0 (apW ct ed q0 q1 q2 q3 q4 q5 q6 q7 q8 q9 q10 q11 q12 q13 q14 q15 q16 q17 q18 q19, 6, [(0, gr 36), (1, gi 18), (2, gi e), (3, gi who)], [gi (gb (gLt ct ed 18 e))])
  refine g_if_ne hX 11 rfl rfl (gb_r _) (fun b6 => ?_) (fun b6 => ?_)
  ·
    have b6 := gb_n0 b6
    refine G.go hX 2 (apW ct ed q0 q1 q2 q3 q4 q5 q6 q7 q8 q9 q10 q11 q12 q13 q14 q15 q16 q17 q18 q19, 14, [(0, gr 36), (1, gi 18), (2, gi e), (3, gi who), (4, gi 0)], []) rfl trivial ?_
    have lp14 : ∀ (n : Nat) (i : Int), (0 ≤ i ∧ i ≤ 6) → (∀ j : Int, 0 ≤ j → j < i → q18 j ≠ who) → (6 - i).toNat < n → G X mX0_has ad 0 0 (apW ct ed q0 q1 q2 q3 q4 q5 q6 q7 q8 q9 q10 q11 q12 q13 q14 q15 q16 q17 q18 q19, 14, [(0, gr 36), (1, gi 18), (2, gi e), (3, gi who), (4, gi i)], []) := by
      intro n
      induction n with
      | zero => intro i hi hno hm9; exact absurd hm9 (Nat.not_lt_zero _)
      | succ n ih14 =>
        intro i hi hno hm14
        refine G.go hX 5 (apW ct ed q0 q1 q2 q3 q4 q5 q6 q7 q8 q9 q10 q11 q12 q13 q14 q15 q16 q17 q18 q19, 22, [(0, gr 36), (1, gi 18), (2, gi e), (3, gi who), (4, gi i)], [gi (ct 18), gi i]) rfl ?_ ?_
        · refine ⟨?_, trivial⟩
          · omega
        refine g_icmp_ge hX 53 rfl rfl ⟨by have := hct 18; omega, by have := hct 18; omega⟩ ⟨by have := hct 18; omega, by have := hct 18; omega⟩ (fun b22 => ?_) (fun b22 => ?_)
        ·
          refine G.go hX 1 (apW ct ed q0 q1 q2 q3 q4 q5 q6 q7 q8 q9 q10 q11 q12 q13 q14 q15 q16 q17 q18 q19, 54, [(0, gr 36), (1, gi 18), (2, gi e), (3, gi who), (4, gi i)], [gi 0]) rfl trivial ?_
          exact g_zret hX hE rfl (Or.inl rfl) ⟨(congrArg (fun z => some (gi z)) (gb_f (by exact fun ⟨_, j, h1, h2, h3⟩ => hno j h1 (by have := hct 18; omega) h3)).symm), rfl⟩
        ·
          refine G.go hX 2 (apW ct ed q0 q1 q2 q3 q4 q5 q6 q7 q8 q9 q10 q11 q12 q13 q14 q15 q16 q17 q18 q19, 29, [(0, gr 36), (1, gi 18), (2, gi e), (3, gi who), (4, gi i)], [gi 6, gi i]) rfl trivial ?_
          refine g_icmp_ge hX 53 rfl rfl ⟨by omega, by omega⟩ ⟨by omega, by omega⟩ (fun b29 => ?_) (fun b29 => ?_)
          ·
            refine G.go hX 1 (apW ct ed q0 q1 q2 q3 q4 q5 q6 q7 q8 q9 q10 q11 q12 q13 q14 q15 q16 q17 q18 q19, 54, [(0, gr 36), (1, gi 18), (2, gi e), (3, gi who), (4, gi i)], [gi 0]) rfl trivial ?_
            exact g_zret hX hE rfl (Or.inl rfl) ⟨(congrArg (fun z => some (gi z)) (gb_f (by exact fun ⟨_, j, h1, h2, h3⟩ => hno j h1 (by have := hct 18; omega) h3)).symm), rfl⟩
          ·
            refine G.go hX 3 (apW ct ed q0 q1 q2 q3 q4 q5 q6 q7 q8 q9 q10 q11 q12 q13 q14 q15 q16 q17 q18 q19, 37, [(0, gr 36), (1, gi 18), (2, gi e), (3, gi who), (4, gi i)], [gi 18, gr 39]) rfl trivial ?_
            refine g_aald hX 58 rfl rfl (by omega) rfl ?_
            refine G.go hX 3 (apW ct ed q0 q1 q2 q3 q4 q5 q6 q7 q8 q9 q10 q11 q12 q13 q14 q15 q16 q17 q18 q19, 42, [(0, gr 36), (1, gi 18), (2, gi e), (3, gi who), (4, gi i)], [gi who, gi (q18 i)]) rfl ?_ ?_
            · refine ⟨?_, trivial⟩
              · omega
            refine g_icmp_ne hX 47 rfl rfl (by first | exact hq _ | assumption) (by first | exact hq _ | assumption) (fun b42 => ?_) (fun b42 => ?_)
            ·
              refine G.go hX 2 (apW ct ed q0 q1 q2 q3 q4 q5 q6 q7 q8 q9 q10 q11 q12 q13 q14 q15 q16 q17 q18 q19, 14, [(0, gr 36), (1, gi 18), (2, gi e), (3, gi who), (4, gi (i + 1))], []) rfl trivial ?_
              exact ih14 (i + 1) (by omega) (by intro j h1 h2; by_cases e9 : j = i; (subst e9; omega); exact hno j h1 (by omega)) (by omega)
            ·
              refine G.go hX 1 (apW ct ed q0 q1 q2 q3 q4 q5 q6 q7 q8 q9 q10 q11 q12 q13 q14 q15 q16 q17 q18 q19, 46, [(0, gr 36), (1, gi 18), (2, gi e), (3, gi who), (4, gi i)], [gi 1]) rfl trivial ?_
              exact g_zret hX hE rfl (Or.inr rfl) ⟨(congrArg (fun z => some (gi z)) (gb_t (by exact ⟨b6, i, by omega, by omega, by omega⟩)).symm), rfl⟩
    exact lp14 _ 0 (by omega) (by intro j h1 h2; omega) (Nat.lt_succ_self _)
  ·
    have b6 := gb_nn b6
    refine G.go hX 1 (apW ct ed q0 q1 q2 q3 q4 q5 q6 q7 q8 q9 q10 q11 q12 q13 q14 q15 q16 q17 q18 q19, 10, [(0, gr 36), (1, gi 18), (2, gi e), (3, gi who)], [gi 0]) rfl trivial ?_
    exact g_zret hX hE rfl (Or.inl rfl) ⟨(congrArg (fun z => some (gi z)) (gb_f (by exact fun h9 => b6 h9.1)).symm), rfl⟩
set_option maxHeartbeats 4000000 in
set_option maxRecDepth 100000 in
theorem c_X0_has_19 (l : Launch) (D : va_G) (cA : Nat → ClassId) (ct : Int → Int) (ed : Int → Int) (q0 : Int → Int) (q1 : Int → Int) (q2 : Int → Int) (q3 : Int → Int) (q4 : Int → Int) (q5 : Int → Int) (q6 : Int → Int) (q7 : Int → Int) (q8 : Int → Int) (q9 : Int → Int) (q10 : Int → Int) (q11 : Int → Int) (q12 : Int → Int) (q13 : Int → Int) (q14 : Int → Int) (q15 : Int → Int) (q16 : Int → Int) (q17 : Int → Int) (q18 : Int → Int) (q19 : Int → Int) (e : Int) (who : Int) (hct : ∀ q : Int, 0 ≤ ct q ∧ ct q ≤ 6) (hed : ∀ q : Int, inR (ed q)) (he : inR e) (hq : ∀ j : Int, inR (q19 j)) (hw : inR who) :
    gC l D cA yX0_has mX0_has (some .boolean) 0 0 [gr 36, gi 19, gi e, gi who] (apW ct ed q0 q1 q2 q3 q4 q5 q6 q7 q8 q9 q10 q11 q12 q13 q14 q15 q16 q17 q18 q19) (fun r9 w9 => r9 = some (gi (gb (gLt ct ed 19 e ∧ ∃ j : Int, 0 ≤ j ∧ j < ct 19 ∧ q19 j = who))) ∧ w9 = apW ct ed q0 q1 q2 q3 q4 q5 q6 q7 q8 q9 q10 q11 q12 q13 q14 q15 q16 q17 q18 q19) := by
  refine gC_of rfl kX0_has rfl rfl (Nat.le_of_ble_eq_true rfl) (fun X ad hX hE => ?_)
  refine G.go hX 3 (apW ct ed q0 q1 q2 q3 q4 q5 q6 q7 q8 q9 q10 q11 q12 q13 q14 q15 q16 q17 q18 q19, 3, [(0, gr 36), (1, gi 19), (2, gi e), (3, gi who)], [gi e, gi 19, gr 36]) rfl trivial ?_
  refine G.callV (av := [gi 19, gi e]) (o := 36) (st := []) hX rfl (fun l D cA => c_X0_isLatest l D cA ct ed q0 q1 q2 q3 q4 q5 q6 q7 q8 q9 q10 q11 q12 q13 q14 q15 q16 q17 q18 q19 19 e (by first | assumption | omega) (by first | assumption | omega) (by first | assumption | omega) (by first | assumption | omega)) (by decide +kernel) aX0_isLatest rfl rfl rfl ⟨rfl, rfl⟩ (by decide) (Nat.le_of_ble_eq_true rfl) [0, 1, 2, 3, 4, 5, 6, 7, 8, 9, 10, 11, 12, 13, 14, 15, 16, 17, 18, 19, 20, 21, 22, 23] [] [] rfl rfl rfl (fun r w' hp => ?_)
  obtain ⟨rfl, rfl⟩ := hp
  show G X mX0_has ad 0 0 (apW ct ed q0 q1 q2 q3 q4 q5 q6 q7 q8 q9 q10 q11 q12 q13 q14 q15 q16 q17 q18 q19, 6, [(0, gr 36), (1, gi 19), (2, gi e), (3, gi who)], [gi (gb (gLt ct ed 19 e))])
  refine g_if_ne hX 11 rfl rfl (gb_r _) (fun b6 => ?_) (fun b6 => ?_)
  ·
    have b6 := gb_n0 b6
    refine G.go hX 2 (apW ct ed q0 q1 q2 q3 q4 q5 q6 q7 q8 q9 q10 q11 q12 q13 q14 q15 q16 q17 q18 q19, 14, [(0, gr 36), (1, gi 19), (2, gi e), (3, gi who), (4, gi 0)], []) rfl trivial ?_
    have lp14 : ∀ (n : Nat) (i : Int), (0 ≤ i ∧ i ≤ 6) → (∀ j : Int, 0 ≤ j → j < i → q19 j ≠ who) → (6 - i).toNat < n → G X mX0_has ad 0 0 (apW ct ed q0 q1 q2 q3 q4 q5 q6 q7 q8 q9 q10 q11 q12 q13 q14 q15 q16 q17 q18 q19, 14, [(0, gr 36), (1, gi 19), (2, gi e), (3, gi who), (4, gi i)], []) := by
      intro n
      induction n with
      | zero => intro i hi hno hm9; exact absurd hm9 (Nat.not_lt_zero _)
      | succ n ih14 =>
        intro i hi hno hm14
        refine G.go hX 5 (apW ct ed q0 q1 q2 q3 q4 q5 q6 q7 q8 q9 q10 q11 q12 q13 q14 q15 q16 q17 q18 q19, 22, [(0, gr 36), (1, gi 19), (2, gi e), (3, gi who), (4, gi i)], [gi (ct 19), gi i]) rfl ?_ ?_
        · refine ⟨?_, trivial⟩
          · omega
        refine g_icmp_ge hX 53 rfl rfl ⟨by have := hct 19; omega, by have := hct 19; omega⟩ ⟨by have := hct 19; omega, by have := hct 19; omega⟩ (fun b22 => ?_) (fun b22 => ?_)
        ·
          refine G.go hX 1 (apW ct ed q0 q1 q2 q3 q4 q5 q6 q7 q8 q9 q10 q11 q12 q13 q14 q15 q16 q17 q18 q19, 54, [(0, gr 36), (1, gi 19), (2, gi e), (3, gi who), (4, gi i)], [gi 0]) rfl trivial ?_
          exact g_zret hX hE rfl (Or.inl rfl) ⟨(congrArg (fun z => some (gi z)) (gb_f (by exact fun ⟨_, j, h1, h2, h3⟩ => hno j h1 (by have := hct 19; omega) h3)).symm), rfl⟩
        ·
          refine G.go hX 2 (apW ct ed q0 q1 q2 q3 q4 q5 q6 q7 q8 q9 q10 q11 q12 q13 q14 q15 q16 q17 q18 q19, 29, [(0, gr 36), (1, gi 19), (2, gi e), (3, gi who), (4, gi i)], [gi 6, gi i]) rfl trivial ?_
          refine g_icmp_ge hX 53 rfl rfl ⟨by omega, by omega⟩ ⟨by omega, by omega⟩ (fun b29 => ?_) (fun b29 => ?_)
          ·
            refine G.go hX 1 (apW ct ed q0 q1 q2 q3 q4 q5 q6 q7 q8 q9 q10 q11 q12 q13 q14 q15 q16 q17 q18 q19, 54, [(0, gr 36), (1, gi 19), (2, gi e), (3, gi who), (4, gi i)], [gi 0]) rfl trivial ?_
            exact g_zret hX hE rfl (Or.inl rfl) ⟨(congrArg (fun z => some (gi z)) (gb_f (by exact fun ⟨_, j, h1, h2, h3⟩ => hno j h1 (by have := hct 19; omega) h3)).symm), rfl⟩
          ·
            refine G.go hX 3 (apW ct ed q0 q1 q2 q3 q4 q5 q6 q7 q8 q9 q10 q11 q12 q13 q14 q15 q16 q17 q18 q19, 37, [(0, gr 36), (1, gi 19), (2, gi e), (3, gi who), (4, gi i)], [gi 19, gr 39]) rfl trivial ?_
            refine g_aald hX 59 rfl rfl (by omega) rfl ?_
            refine G.go hX 3 (apW ct ed q0 q1 q2 q3 q4 q5 q6 q7 q8 q9 q10 q11 q12 q13 q14 q15 q16 q17 q18 q19, 42, [(0, gr 36), (1, gi 19), (2, gi e), (3, gi who), (4, gi i)], [gi who, gi (q19 i)]) rfl ?_ ?_
            · refine ⟨?_, trivial⟩
              · omega
            refine g_icmp_ne hX 47 rfl rfl (by first | exact hq _ | assumption) (by first | exact hq _ | assumption) (fun b42 => ?_) (fun b42 => ?_)
            ·
              refine G.go hX 2 (apW ct ed q0 q1 q2 q3 q4 q5 q6 q7 q8 q9 q10 q11 q12 q13 q14 q15 q16 q17 q18 q19, 14, [(0, gr 36), (1, gi 19), (2, gi e), (3, gi who), (4, gi (i + 1))], []) rfl trivial ?_
              exact ih14 (i + 1) (by omega) (by intro j h1 h2; by_cases e9 : j = i; (subst e9; omega); exact hno j h1 (by omega)) (by omega)
            ·
              refine G.go hX 1 (apW ct ed q0 q1 q2 q3 q4 q5 q6 q7 q8 q9 q10 q11 q12 q13 q14 q15 q16 q17 q18 q19, 46, [(0, gr 36), (1, gi 19), (2, gi e), (3, gi who), (4, gi i)], [gi 1]) rfl trivial ?_
              exact g_zret hX hE rfl (Or.inr rfl) ⟨(congrArg (fun z => some (gi z)) (gb_t (by exact ⟨b6, i, by omega, by omega, by omega⟩)).symm), rfl⟩
    exact lp14 _ 0 (by omega) (by intro j h1 h2; omega) (Nat.lt_succ_self _)
  ·
    have b6 := gb_nn b6
    refine G.go hX 1 (apW ct ed q0 q1 q2 q3 q4 q5 q6 q7 q8 q9 q10 q11 q12 q13 q14 q15 q16 q17 q18 q19, 10, [(0, gr 36), (1, gi 19), (2, gi e), (3, gi who)], [gi 0]) rfl trivial ?_
    exact g_zret hX hE rfl (Or.inl rfl) ⟨(congrArg (fun z => some (gi z)) (gb_f (by exact fun h9 => b6 h9.1)).symm), rfl⟩
