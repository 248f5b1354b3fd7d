set_option maxHeartbeats 4000000 in
set_option maxRecDepth 100000 in
theorem c_X4_refresh (l : Launch) (D : va_G) (cA : Nat → ClassId) (W : Nat) (H : Nat) (M : Nat) (P : Nat) (c : Int) (wt : Int) (rows : Int → Int) (gro : Int → Int) (wx : Int → Int) (wy : Int → Int) (mk : Int → Int) (dp : Int) (fa : Int) (ne : Int) (sl : Int) (p0 : Int → Int) (p1 : Int → Int) (hW : W ≤ 32) (hH : H ≤ 32) (hP : P = W * H) (hPl : P ≤ 1024) (hM : M = ((W + 1) / 2) * ((H + 1) / 2)) (hMl : M ≤ 256) (hfa : 0 ≤ fa ∧ fa ≤ 255) (hne : 0 ≤ ne ∧ ne ≤ 2) (hp0 : ∀ q, 0 ≤ p0 q ∧ p0 q ≤ 255) (hp1 : ∀ q, 0 ≤ p1 q ∧ p1 q ≤ 255) (hsl : sl = 0 ∨ sl = 1) (hrr : ∀ j : Int, inR (rows j)) (hgr : ∀ j : Int, inR (gro j)) (hmo : ∀ q : Int, ¬ (0 ≤ q ∧ q < P) → mk q = 0) (hval : sl = 0 → gVal W H P M ne fa p0 p1 dp c rows) :
    gC l D cA yX4_refresh mX4_refresh none 0 0 [gr 1] (suW W H M P c wt rows gro wx wy mk dp fa ne sl p0 p1) (fun r9 w9 => ∃ (c2 : Int) (wt2 : Int) (rows2 : Int → Int) (gro2 : Int → Int) (wx2 : Int → Int) (wy2 : Int → Int) (mk2 : Int → Int) (dp2 : Int), r9 = none ∧ w9 = suW W H M P c2 wt2 rows2 gro2 wx2 wy2 mk2 dp2 fa ne 0 p0 p1 ∧ (gVal W H P M ne fa p0 p1 dp2 c2 rows2) ∧ (∀ j : Int, inR (rows2 j)) ∧ (∀ j : Int, inR (gro2 j)) ∧ (∀ q : Int, ¬ (0 ≤ q ∧ q < P) → mk2 q = 0)) := by
  refine gC_of rfl kX4_refresh rfl rfl (Nat.le_of_ble_eq_true rfl) (fun X ad hX hE => ?_)
  refine G.go hX 2 (suW W H M P c wt rows gro wx wy mk dp fa ne sl p0 p1, 4, [(0, gr 1)], [gi sl]) rfl trivial ?_
  refine g_if_ne hX 8 rfl rfl ⟨by omega, by omega⟩ (fun b4 => ?_) (fun b4 => ?_)
  ·
    refine G.go hX 5 (suW W H M P c wt rows gro wx wy mk 0 fa ne sl p0 p1, 15, [(0, gr 1), (1, gi 0)], []) rfl trivial ?_
    have lp15 : ∀ (n : Nat) (y : Int) (mk1 : Int → Int) (dp1 : Int), (0 ≤ y ∧ y ≤ H) → (dp1 = gsm (gmk W H P ne fa p0 p1) (y * W + 0).toNat) → (∀ q, 0 ≤ q → q < y * W + 0 → mk1 q = gmk W H P ne fa p0 p1 q) → (∀ q : Int, ¬ (0 ≤ q ∧ q < P) → mk1 q = 0) → (H - y).toNat < n → G X mX4_refresh ad 0 0 (suW W H M P c wt rows gro wx wy mk1 dp1 fa ne sl p0 p1, 15, [(0, gr 1), (1, gi y)], []) := by
      intro n
      induction n with
      | zero => intro y mk1 dp1 hy hd1 hk1 ho1 hm9; exact absurd hm9 (Nat.not_lt_zero _)
      | succ n ih15 =>
        intro y mk1 dp1 hy hd1 hk1 ho1 hm15
        refine G.go hX 3 (suW W H M P c wt rows gro wx wy mk1 dp1 fa ne sl p0 p1, 20, [(0, gr 1), (1, gi y)], [gi H, gi y]) rfl trivial ?_
        refine g_icmp_ge hX 84 rfl rfl ⟨by omega, by omega⟩ ⟨by omega, by omega⟩ (fun b20 => ?_) (fun b20 => ?_)
        ·
          have hyH : y * W = P := by (rw [show y = H by omega, hP]; simp [Int.mul_comm])
          have hmkE : mk1 = gmk W H P ne fa p0 p1 := by
            funext q
            by_cases hq : 0 ≤ q ∧ q < P
            · exact hk1 q hq.1 (by omega)
            · rw [ho1 q hq]; exact (gb_f (fun h9 => hq h9.1)).symm
          refine G.go hX 8 (suW W H M P c wt rows gro wx wy mk1 dp1 fa ne sl p0 p1, 98, [(0, gr 1), (1, gi y)], [gi (ne + 1), gr 6, gr 2]) rfl trivial ?_
          refine G.callV (av := [gr 6, gi (ne + 1)]) (o := 2) (st := []) hX rfl (fun l D cA => c_X1_gather l D cA W H M P c wt rows gro wx wy mk1 (ne + 1) (by first | assumption | omega) (by first | assumption | omega) (by first | assumption | omega) (by first | assumption | omega) (by first | assumption | omega) (by first | assumption | omega) ⟨by omega, by omega⟩ (by rw [hmkE]; exact gmk_01 W H P ne fa p0 p1) (by rw [hmkE]; exact gmk_in) (by first | assumption | omega) (by first | assumption | omega)) (by decide +kernel) aX1_gather rfl rfl rfl ⟨rfl, rfl⟩ (by decide) (Nat.le_of_ble_eq_true rfl) [4, 5, 6, 7, 8, 9] [0, 1, 2, 3] [(1, gob 5 [gr 2, gi dp1, gi W, gi H, gr 3, gr 6, gi fa, gi ne, gi sl]), (3, gar 2 2 ptq), (4, gai 0 P p0), (5, gai 0 P p1)] rfl rfl rfl (fun r w' hp => ?_)
          obtain ⟨c5, wt5, rows5, gro5, wx5, wy5, mk5, rfl, rfl, hq0, hq1, hq2, hq3, hq4⟩ := hp
          refine G.perm (suW W H M P c5 wt5 rows5 gro5 wx5 wy5 mk5 dp1 fa ne sl p0 p1) [0, 1, 2, 3, 4, 5, 6, 7, 8, 9] rfl rfl ?_
          show G X mX4_refresh ad 0 0 (suW W H M P c5 wt5 rows5 gro5 wx5 wy5 mk5 dp1 fa ne sl p0 p1, 101, [(0, gr 1), (1, gi y)], [])
          refine G.go hX 3 (suW W H M P c5 wt5 rows5 gro5 wx5 wy5 mk5 dp1 fa ne 0 p0 p1, 106, [(0, gr 1), (1, gi y)], []) rfl ?_ ?_
          · refine ⟨?_, trivial⟩
            · omega
          exact g_vret hX hE rfl ⟨c5, wt5, rows5, gro5, wx5, wy5, mk5, dp1, rfl, rfl, ⟨by rw [hd1, show (y * (W : Int) + 0).toNat = P by omega], by rw [← hmkE]; exact hq0, hq1, hq2⟩, hq0.2.1, hq3, fun q _ => hq4 q⟩
        ·
          refine G.go hX 2 (suW W H M P c wt rows gro wx wy mk1 dp1 fa ne sl p0 p1, 25, [(0, gr 1), (1, gi y), (2, gi 0)], []) rfl trivial ?_
          have lp25 : ∀ (n : Nat) (x : Int) (mk3 : Int → Int) (dp3 : Int), (0 ≤ x ∧ x ≤ W) → (dp3 = gsm (gmk W H P ne fa p0 p1) (y * W + x).toNat) → (∀ q, 0 ≤ q → q < y * W + x → mk3 q = gmk W H P ne fa p0 p1 q) → (∀ q : Int, ¬ (0 ≤ q ∧ q < P) → mk3 q = 0) → (W - x).toNat < n → G X mX4_refresh ad 0 0 (suW W H M P c wt rows gro wx wy mk3 dp3 fa ne sl p0 p1, 25, [(0, gr 1), (1, gi y), (2, gi x)], []) := by
            intro n
            induction n with
            | zero => intro x mk3 dp3 hx hd3 hk3 ho3 hm9; exact absurd hm9 (Nat.not_lt_zero _)
            | succ n ih25 =>
              intro x mk3 dp3 hx hd3 hk3 ho3 hm25
              refine G.go hX 3 (suW W H M P c wt rows gro wx wy mk3 dp3 fa ne sl p0 p1, 30, [(0, gr 1), (1, gi y), (2, gi x)], [gi W, gi x]) rfl trivial ?_
              refine g_icmp_ge hX 78 rfl rfl ⟨by omega, by omega⟩ ⟨by omega, by omega⟩ (fun b30 => ?_) (fun b30 => ?_)
              ·
                refine G.go hX 2 (suW W H M P c wt rows gro wx wy mk3 dp3 fa ne sl p0 p1, 15, [(0, gr 1), (1, gi (y + 1)), (2, gi x)], []) rfl trivial ?_
                refine G.locs [(0, gr 1), (1, gi (y + 1))] [0, 1] rfl ?_
                exact ih15 (y + 1) mk3 dp3 (by omega) (by rw [hd3, show (y + 1) * (W : Int) + 0 = y * W + x by (rw [show x = (W : Int) by omega, Int.add_mul]; omega)]) (by rw [show (y + 1) * (W : Int) + 0 = y * W + x by (rw [show x = (W : Int) by omega, Int.add_mul]; omega)]; exact hk3) (by exact ho3) (by omega)
              ·
                have hix := gix hP (x := x) (y := y) (by omega) (by omega) (by omega) (by omega)
                refine G.go hX 3 (suW W H M P c wt rows gro wx wy mk3 dp3 fa ne sl p0 p1, 36, [(0, gr 1), (1, gi y), (2, gi x)], [gi y, gi x, gr 1]) rfl trivial ?_
                refine G.callV (av := [gi x, gi y]) (o := 1) (st := []) hX rfl (fun l D cA => c_X4_isUnmetAt l D cA W H M P c wt rows gro wx wy mk3 dp3 fa ne sl p0 p1 x y (by first | assumption | omega) (by first | assumption | omega) (by first | assumption | omega) (by first | assumption | omega) (by first | assumption | omega) (by first | assumption | omega) (by first | assumption | omega) (by first | assumption | omega) ⟨by omega, by omega⟩ ⟨by omega, by omega⟩) (by decide +kernel) aX4_isUnmetAt rfl rfl rfl ⟨rfl, rfl⟩ (by decide) (Nat.le_of_ble_eq_true rfl) [0, 1, 2, 3, 4, 5, 6, 7, 8, 9] [] [] rfl rfl rfl (fun r w' hp => ?_)
                obtain ⟨rfl, rfl⟩ := hp
                show G X mX4_refresh ad 0 0 (suW W H M P c wt rows gro wx wy mk3 dp3 fa ne sl p0 p1, 39, [(0, gr 1), (1, gi y), (2, gi x)], [gi (gb (gun W H ne fa p0 p1 x y))])
                refine G.go hX 15 (suW W H M P c wt rows gro wx wy (gu mk3 ((y * W) + x) (gb (gun W H ne fa p0 p1 x y))) dp3 fa ne sl p0 p1, 60, [(0, gr 1), (1, gi y), (2, gi x), (3, gi (gb (gun W H ne fa p0 p1 x y)))], [gi (gb (gun W H ne fa p0 p1 x y)), gi dp3, gr 1]) rfl ?_ ?_
                · refine ⟨?_, trivial⟩
                  · exact ⟨⟨by omega, by omega, by omega⟩, gb_01 _⟩
                refine g_if_eq hX 67 rfl rfl (gb_r _) (fun b60 => ?_) (fun b60 => ?_)
                ·
                  have b60 := gb_0.mp b60
                  refine G.go hX 5 (suW W H M P c wt rows gro wx wy (gu mk3 ((y * W) + x) (gb (gun W H ne fa p0 p1 x y))) (dp3 + 0) fa ne sl p0 p1, 25, [(0, gr 1), (1, gi y), (2, gi (x + 1)), (3, gi (gb (gun W H ne fa p0 p1 x y)))], []) rfl trivial ?_
                  refine G.locs [(0, gr 1), (1, gi y), (2, gi (x + 1))] [0, 1, 2] rfl ?_
                  exact ih25 (x + 1) (gu mk3 ((y * W) + x) (gb (gun W H ne fa p0 p1 x y))) (dp3 + 0) (by omega) (by have h9 := gdp_next (x := x) (y := y) hP ⟨by omega, by omega⟩ ⟨by omega, by omega⟩ hd3; first | (rw [gb_t b60] at h9; exact h9) | (rw [gb_f b60] at h9; exact h9)) (by intro q h1 h2; by_cases e9 : q = y * W + x; (rw [e9, gu_s, gmk_at hP ⟨by omega, by omega⟩ ⟨by omega, by omega⟩]); (rw [gu_n _ _ e9]; exact hk3 q h1 (by omega))) (by intro q h1; rw [gu_n _ _ (fun e9 => h1 (by rw [e9]; exact hix))]; exact ho3 q h1) (by omega)
                ·
                  have b60 := gb_n0 b60
                  refine G.go hX 6 (suW W H M P c wt rows gro wx wy (gu mk3 ((y * W) + x) (gb (gun W H ne fa p0 p1 x y))) (dp3 + 1) fa ne sl p0 p1, 25, [(0, gr 1), (1, gi y), (2, gi (x + 1)), (3, gi (gb (gun W H ne fa p0 p1 x y)))], []) rfl trivial ?_
                  refine G.locs [(0, gr 1), (1, gi y), (2, gi (x + 1))] [0, 1, 2] rfl ?_
                  exact ih25 (x + 1) (gu mk3 ((y * W) + x) (gb (gun W H ne fa p0 p1 x y))) (dp3 + 1) (by omega) (by have h9 := gdp_next (x := x) (y := y) hP ⟨by omega, by omega⟩ ⟨by omega, by omega⟩ hd3; first | (rw [gb_t b60] at h9; exact h9) | (rw [gb_f b60] at h9; exact h9)) (by intro q h1 h2; by_cases e9 : q = y * W + x; (rw [e9, gu_s, gmk_at hP ⟨by omega, by omega⟩ ⟨by omega, by omega⟩]); (rw [gu_n _ _ e9]; exact hk3 q h1 (by omega))) (by intro q h1; rw [gu_n _ _ (fun e9 => h1 (by rw [e9]; exact hix))]; exact ho3 q h1) (by omega)
          exact lp25 _ 0 mk1 dp1 (by omega) (by exact hd1) (by exact hk1) (by exact ho1) (Nat.lt_succ_self _)
    exact lp15 _ 0 mk 0 (by omega) (by rw [show ((0 : Int) * W + 0).toNat = 0 by omega]; rfl) (by intro q h1 h2; omega) (by exact hmo) (Nat.lt_succ_self _)
  ·
    have hs0 : sl = 0 := by omega
    exact g_vret hX hE rfl ⟨c, wt, rows, gro, wx, wy, mk, dp, rfl, by rw [hs0], hval hs0, hrr, hgr, hmo⟩
