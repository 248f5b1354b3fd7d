set_option maxHeartbeats 4000000 in
set_option maxRecDepth 100000 in
theorem c_X1_growFrom (l : Launch) (D : va_G) (cA : Nat → ClassId) (W : Nat) (H : Nat) (M : Nat) (P : Nat) (c : Int) (wt : Int) (rows : Int → Int) (gro : Int → Int) (wx : Int → Int) (wy : Int → Int) (mk : Int → Int) (x : Int) (y : Int) (r : Int) (hW : W ≤ 32) (hH : H ≤ 32) (hP : P = W * H) (hPl : P ≤ 1024) (hx : 0 ≤ x ∧ x < W) (hy : 0 ≤ y ∧ y < H) (hr : 0 ≤ r ∧ r ≤ 3) (hbm : ∀ q, mk q = 0 ∨ mk q = 1) (hm : mk (y * W + x) = 1) (hgr : ∀ j : Int, inR (gro j)) :
    gC l D cA yX1_growFrom mX1_growFrom none 0 0 [gr 2, gi x, gi y, gr 6, gi r] (bxW W H M P c wt rows gro wx wy mk) (fun r9 w9 => ∃ (gro2 : Int → Int) (mk2 : Int → Int) (wt2 : Int) (wx2 : Int → Int) (wy2 : Int → Int), r9 = none ∧ w9 = bxW W H M P c wt2 rows gro2 wx2 wy2 mk2 ∧ (gGr W H P x y r mk gro2 mk2 wt2 wx2 wy2) ∧ (gro2 4 = wt2) ∧ (∀ j : Int, inR (gro2 j)) ∧ (wt2 ≤ P)) := by
  have hix := gix hP hx.1 hx.2 hy.1 hy.2
  refine gC_of rfl kX1_growFrom rfl rfl (Nat.le_of_ble_eq_true rfl) (fun X ad hX hE => ?_)
  refine G.go hX 27 (bxW W H M P c 0 rows (gu (gu (gu (gu gro 0 x) 1 y) 2 x) 3 y) wx wy mk, 37, [(0, gr 2), (1, gi x), (2, gi y), (3, gr 6), (4, gi r)], [gr 6, gi y, gi x, gr 2]) rfl ?_ ?_
  · refine ⟨?_, ?_, ?_, ?_, trivial⟩
    · omega
    · omega
    · omega
    · omega
  refine G.callV (av := [gi x, gi y, gr 6]) (o := 2) (st := []) hX rfl (fun l D cA => c_X1_take l D cA W H M P c 0 rows (gu (gu (gu (gu gro 0 x) 1 y) 2 x) 3 y) wx wy mk x y hix (by first | assumption | omega) ⟨by omega, by omega⟩) (by decide +kernel) aX1_take rfl rfl rfl ⟨rfl, rfl⟩ (by decide) (Nat.le_of_ble_eq_true rfl) [0, 1, 2, 3, 4, 5] [] [] rfl rfl rfl (fun r w' hp => ?_)
  obtain ⟨rfl, rfl⟩ := hp
  show G X mX1_growFrom ad 0 0 (bxW W H M P c (0 + 1) rows (gu (gu (gu (gu gro 0 x) 1 y) 2 x) 3 y) (gu wx 0 x) (gu wy 0 y) (gu mk (y * W + x) 0), 40, [(0, gr 2), (1, gi x), (2, gi y), (3, gr 6), (4, gi r)], [])
  refine G.go hX 2 (bxW W H M P c (0 + 1) rows (gu (gu (gu (gu gro 0 x) 1 y) 2 x) 3 y) (gu wx 0 x) (gu wy 0 y) (gu mk (y * W + x) 0), 43, [(0, gr 2), (1, gi x), (2, gi y), (3, gr 6), (4, gi r), (5, gi 0)], []) rfl trivial ?_
  have lp43 : ∀ (n : Nat) (i : Int) (gro1 : Int → Int) (mk1 : Int → Int) (wt1 : Int) (wx1 : Int → Int) (wy1 : Int → Int), (gLI W H P x y r mk gro1 mk1 wt1 wx1 wy1 i) → (P - i).toNat < n → G X mX1_growFrom ad 0 0 (bxW W H M P c wt1 rows gro1 wx1 wy1 mk1, 43, [(0, gr 2), (1, gi x), (2, gi y), (3, gr 6), (4, gi r), (5, gi i)], []) := by
    intro n
    induction n with
    | zero => intro i gro1 mk1 wt1 wx1 wy1 hL hm9; exact absurd hm9 (Nat.not_lt_zero _)
    | succ n ih43 =>
      intro i gro1 mk1 wt1 wx1 wy1 hL hm43
      have hle := gLI_le hbm hL
      have hi9 := hL.2.1
      refine G.go hX 4 (bxW W H M P c wt1 rows gro1 wx1 wy1 mk1, 50, [(0, gr 2), (1, gi x), (2, gi y), (3, gr 6), (4, gi r), (5, gi i)], [gi ((P : Nat) : Int), gi i]) rfl trivial ?_
      refine g_icmp_ge hX 121 rfl rfl ⟨by omega, by omega⟩ ⟨by omega, by omega⟩ (fun b50 => ?_) (fun b50 => ?_)
      ·
        refine G.go hX 6 (bxW W H M P c wt1 rows (gu gro1 4 wt1) wx1 wy1 mk1, 131, [(0, gr 2), (1, gi x), (2, gi y), (3, gr 6), (4, gi r), (5, gi i)], []) rfl ?_ ?_
        · refine ⟨?_, trivial⟩
          · omega
        exact g_vret hX hE rfl ⟨_, mk1, wt1, wx1, wy1, rfl, rfl, gLI_end hL (by omega), gu_s _ _ _, gu_r hL.2.2.2.2.2 ⟨by omega, by omega⟩, hle.2⟩
      ·
        refine G.go hX 3 (bxW W H M P c wt1 rows gro1 wx1 wy1 mk1, 59, [(0, gr 2), (1, gi x), (2, gi y), (3, gr 6), (4, gi r), (5, gi i)], [gi wt1, gi i]) rfl trivial ?_
        refine g_icmp_ge hX 121 rfl rfl ⟨by omega, by omega⟩ ⟨by omega, by omega⟩ (fun b59 => ?_) (fun b59 => ?_)
        ·
          refine G.go hX 6 (bxW W H M P c wt1 rows (gu gro1 4 wt1) wx1 wy1 mk1, 131, [(0, gr 2), (1, gi x), (2, gi y), (3, gr 6), (4, gi r), (5, gi i)], []) rfl ?_ ?_
          · refine ⟨?_, trivial⟩
            · omega
          exact g_vret hX hE rfl ⟨_, mk1, wt1, wx1, wy1, rfl, rfl, gLI_end hL (by omega), gu_s _ _ _, gu_r hL.2.2.2.2.2 ⟨by omega, by omega⟩, hle.2⟩
        ·
          have hxi := hL.1.2.2.2.1 i (by omega) (by omega)
          refine G.go hX 17 (bxW W H M P c wt1 rows gro1 wx1 wy1 mk1, 91, [(0, gr 2), (1, gi x), (2, gi y), (3, gr 6), (4, gi r), (5, gi i)], [gi (wy1 i), gi (wx1 i), gi (wy1 i), gi (wx1 i), gr 2]) rfl ?_ ?_
          · refine ⟨?_, ?_, ?_, ?_, trivial⟩
            · omega
            · omega
            · omega
            · omega
          refine G.callV (av := [gi (wx1 i), gi (wy1 i), gi (wx1 i), gi (wy1 i)]) (o := 2) (st := []) hX rfl (fun l D cA => c_X1_widen l D cA W H M P c wt1 rows gro1 wx1 wy1 mk1 (wx1 i) (wy1 i) (wx1 i) (wy1 i) hL.2.2.2.2.2 ⟨by omega, by omega⟩ ⟨by omega, by omega⟩ ⟨by omega, by omega⟩ ⟨by omega, by omega⟩) (by decide +kernel) aX1_widen rfl rfl rfl ⟨rfl, rfl⟩ (by decide) (Nat.le_of_ble_eq_true rfl) [0, 1, 2, 3, 4, 5] [] [] rfl rfl rfl (fun r w' hp => ?_)
          obtain ⟨rfl, rfl⟩ := hp
          show G X mX1_growFrom ad 0 0 (bxW W H M P c wt1 rows (gwd gro1 (wx1 i) (wy1 i) (wx1 i) (wy1 i)) wx1 wy1 mk1, 94, [(0, gr 2), (1, gi x), (2, gi y), (3, gr 6), (4, gi r), (5, gi i)], [])
          refine G.go hX 11 (bxW W H M P c wt1 rows (gwd gro1 (wx1 i) (wy1 i) (wx1 i) (wy1 i)) wx1 wy1 mk1, 112, [(0, gr 2), (1, gi x), (2, gi y), (3, gr 6), (4, gi r), (5, gi i)], [gi r, gr 6, gi (wy1 i), gi (wx1 i), gr 2]) rfl ?_ ?_
          · refine ⟨?_, ?_, trivial⟩
            · omega
            · omega
          refine G.callV (av := [gi (wx1 i), gi (wy1 i), gr 6, gi r]) (o := 2) (st := []) hX rfl (fun l D cA => c_X1_takeAround l D cA W H M P c wt1 rows (gwd gro1 (wx1 i) (wy1 i) (wx1 i) (wy1 i)) wx1 wy1 mk1 (wx1 i) (wy1 i) r (gF1 W H P x y r mk mk1 wt1 wx1 wy1) (by first | assumption | omega) (by first | assumption | omega) (by first | assumption | omega) (by first | assumption | omega) ⟨by omega, by omega⟩ ⟨by omega, by omega⟩ (by first | assumption | omega) (gF1_st hP (by omega) (by omega)) (gF1_ok hbm) ⟨hL.1, by omega, fun _ _ _ => ⟨rfl, rfl⟩, fun _ h => h⟩) (by decide +kernel) aX1_takeAround rfl rfl rfl ⟨rfl, rfl⟩ (by decide) (Nat.le_of_ble_eq_true rfl) [0, 1, 2, 3, 4, 5] [] [] rfl rfl rfl (fun r w' hp => ?_)
          obtain ⟨mk2_1, wt2_2, wx2_3, wy2_4, rfl, rfl, hp1, hp2⟩ := hp
          show G X mX1_growFrom ad 0 0 (bxW W H M P c wt2_2 rows (gwd gro1 (wx1 i) (wy1 i) (wx1 i) (wy1 i)) wx2_3 wy2_4 mk2_1, 115, [(0, gr 2), (1, gi x), (2, gi y), (3, gr 6), (4, gi r), (5, gi i)], [])
          refine G.go hX 2 (bxW W H M P c wt2_2 rows (gwd gro1 (wx1 i) (wy1 i) (wx1 i) (wy1 i)) wx2_3 wy2_4 mk2_1, 43, [(0, gr 2), (1, gi x), (2, gi y), (3, gr 6), (4, gi r), (5, gi (i + 1))], []) rfl trivial ?_
          exact ih43 (i + 1) (gwd gro1 (wx1 i) (wy1 i) (wx1 i) (wy1 i)) mk2_1 wt2_2 wx2_3 wy2_4 (by exact gLI_step hW hH hL (by omega) hp1 hp2) (by omega)
  exact lp43 _ 0 (gu (gu (gu (gu gro 0 x) 1 y) 2 x) 3 y) (gu mk (y * W + x) 0) (0 + 1) (gu wx 0 x) (gu wy 0 y) (by exact gLI_first hP hW hH hbm hx hy hm hgr) (Nat.lt_succ_self _)
