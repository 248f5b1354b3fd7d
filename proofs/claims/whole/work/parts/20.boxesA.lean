/-- the world of ProofCompare$Boxes: the object, its rows, the box that grows, what waits, the marks -/
abbrev bxW (W H M P : Nat) (c wt : Int) (rows gro wx wy mk : Int → Int) : gW := [(2, gob 2 [gi c, gi W, gi H, gi M, gr 7, gr 8, gr 9, gr 10, gi wt]), (7, gai 0 (M * 5) rows), (8, gai 0 5 gro), (9, gai 0 P wx), (10, gai 0 P wy), (6, gai 1 P mk)]
theorem c_X1_tell (l : Launch) (D : va_G) (cA : Nat → ClassId) (W H M P : Nat) (c wt : Int) (rows gro wx wy mk : Int → Int) (i k : Int) (hM : M ≤ 256) (h : 0 ≤ i * 5 + k ∧ i * 5 + k < M * 5) :
    gC l D cA yX1_tell mX1_tell (some .int) 0 0 [gr 2, gi i, gi k] (bxW W H M P c wt rows gro wx wy mk) (fun r w => r = some (gi (rows (i * 5 + k))) ∧ w = bxW W H M P c wt rows gro wx wy mk) := by
  refine gC_of rfl kX1_tell rfl rfl (Nat.le_of_ble_eq_true rfl) (fun X ad hX hE => ?_)
  refine G.go hX 8 (bxW W H M P c wt rows gro wx wy mk, 10, [(0, gr 2), (1, gi i), (2, gi k)], [gi (rows (i * 5 + k))]) rfl ?_ ?_
  · refine ⟨?_, trivial⟩
    omega
  exact g_iret hX hE rfl ⟨rfl, rfl⟩
