/-- the world of ProofCompare$Boxes: the object, its rows, the box that grows, what waits, the marks -/
abbrev bxW (W H M P : Nat) (c wt : Int) (rows gro wx wy mk : Int → Int) : gW := [(2, gob 2 [gi c, gi W, gi H, gi M, gr 7, gr 8, gr 9, gr 10, gi wt]), (7, gai 0 (M * 5) rows), (8, gai 0 5 gro), (9, gai 0 P wx), (10, gai 0 P wy), (6, gai 1 P mk)]
theorem gb_n0 {P : Prop} (h : ¬ gb P = 0) : P := Classical.byContradiction fun h9 => h (gb_f h9)
theorem gb_nn {P : Prop} (h : ¬ ¬ gb P = 0) : ¬ P := fun h9 => h (fun h8 => by rw [gb_t h9] at h8; cases h8)
set_option maxHeartbeats 4000000 in
set_option maxRecDepth 100000 in
theorem c_X1_tell (l : Launch) (D : va_G) (cA : Nat → ClassId) (W : Nat) (H : Nat) (M : Nat) (P : Nat) (c : Int) (wt : Int) (rows : Int → Int) (gro : Int → Int) (wx : Int → Int) (wy : Int → Int) (mk : Int → Int) (i : Int) (k : Int) (hM : M ≤ 256) (hi : 0 ≤ i * 5 + k ∧ i * 5 + k < M * 5) :
    gC l D cA yX1_tell mX1_tell (some .int) 0 0 [gr 2, gi i, gi k] (bxW W H M P c wt rows gro wx wy mk) (fun r9 w9 => r9 = some (gi (rows (i * 5 + k))) ∧ w9 = bxW W H M P c wt rows gro wx wy mk) := by
  refine gC_of rfl kX1_tell rfl rfl (Nat.le_of_ble_eq_true rfl) (fun X ad hX hE => ?_)
  refine G.go hX 8 (bxW W H M P c wt rows gro wx wy mk, 10, [(0, gr 2), (1, gi i), (2, gi k)], [gi (rows ((i * 5) + k))]) rfl ?_ ?_
  · refine ⟨?_, trivial⟩
    · omega
  exact g_iret hX hE rfl ⟨(congrArg (fun z => some (gi z)) (by first | rfl | (omega))), rfl⟩
set_option maxHeartbeats 4000000 in
set_option maxRecDepth 100000 in
theorem c_X1_sharesPlace (l : Launch) (D : va_G) (cA : Nat → ClassId) (W : Nat) (H : Nat) (M : Nat) (P : Nat) (c : Int) (wt : Int) (rows : Int → Int) (gro : Int → Int) (wx : Int → Int) (wy : Int → Int) (mk : Int → Int) (i : Int) (hM : M ≤ 256) (hi : 0 ≤ i ∧ i < M) (hrr : ∀ j : Int, inR (rows j)) (hgr : ∀ j : Int, inR (gro j)) :
    gC l D cA yX1_sharesPlace mX1_sharesPlace (some .boolean) 0 0 [gr 2, gi i] (bxW W H M P c wt rows gro wx wy mk) (fun r9 w9 => r9 = some (gi (gb (gsh gro rows i))) ∧ w9 = bxW W H M P c wt rows gro wx wy mk) := by
  refine gC_of rfl kX1_sharesPlace rfl rfl (Nat.le_of_ble_eq_true rfl) (fun X ad hX hE => ?_)
  refine G.go hX 7 (bxW W H M P c wt rows gro wx wy mk, 9, [(0, gr 2), (1, gi i)], [gi 2, gi i, gr 2, gi (gro 0)]) rfl ?_ ?_
  · refine ⟨?_, trivial⟩
    · omega
  refine G.callV (av := [gi i, gi 2]) (o := 2) (st := [gi (gro 0)]) hX rfl (fun l D cA => c_X1_tell l D cA W H M P c wt rows gro wx wy mk i 2 (by first | assumption | omega) (by first | assumption | omega)) (by decide +kernel) aX1_tell rfl rfl rfl ⟨rfl, rfl⟩ (by decide) (Nat.le_of_ble_eq_true rfl) [0, 1, 2, 3, 4, 5] [] [] rfl rfl rfl (fun r w' hp => ?_)
  obtain ⟨rfl, rfl⟩ := hp
  show G X mX1_sharesPlace ad 0 0 (bxW W H M P c wt rows gro wx wy mk, 12, [(0, gr 2), (1, gi i)], [gi (rows (i * 5 + 2)), gi (gro 0)])
  refine g_icmp_gt hX 64 rfl rfl (by first | exact hgr _ | exact hrr _) (by first | exact hgr _ | exact hrr _) (fun b12 => ?_) (fun b12 => ?_)
  ·
    refine G.go hX 1 (bxW W H M P c wt rows gro wx wy mk, 65, [(0, gr 2), (1, gi i)], [gi 0]) rfl trivial ?_
    exact g_zret hX hE rfl (Or.inl rfl) ⟨(congrArg (fun z => some (gi z)) (gb_f (by unfold gsh; omega)).symm), rfl⟩
  ·
    refine G.go hX 3 (bxW W H M P c wt rows gro wx wy mk, 18, [(0, gr 2), (1, gi i)], [gi 0, gi i, gr 2]) rfl trivial ?_
    refine G.callV (av := [gi i, gi 0]) (o := 2) (st := []) hX rfl (fun l D cA => c_X1_tell l D cA W H M P c wt rows gro wx wy mk i 0 (by first | assumption | omega) (by first | assumption | omega)) (by decide +kernel) aX1_tell rfl rfl rfl ⟨rfl, rfl⟩ (by decide) (Nat.le_of_ble_eq_true rfl) [0, 1, 2, 3, 4, 5] [] [] rfl rfl rfl (fun r w' hp => ?_)
    obtain ⟨rfl, rfl⟩ := hp
    show G X mX1_sharesPlace ad 0 0 (bxW W H M P c wt rows gro wx wy mk, 21, [(0, gr 2), (1, gi i)], [gi (rows (i * 5 + 0))])
    refine G.go hX 4 (bxW W H M P c wt rows gro wx wy mk, 27, [(0, gr 2), (1, gi i)], [gi (gro 2), gi (rows (i * 5 + 0))]) rfl ?_ ?_
    · refine ⟨?_, trivial⟩
      · omega
    refine g_icmp_gt hX 64 rfl rfl (by first | exact hgr _ | exact hrr _) (by first | exact hgr _ | exact hrr _) (fun b27 => ?_) (fun b27 => ?_)
    ·
      refine G.go hX 1 (bxW W H M P c wt rows gro wx wy mk, 65, [(0, gr 2), (1, gi i)], [gi 0]) rfl trivial ?_
      exact g_zret hX hE rfl (Or.inl rfl) ⟨(congrArg (fun z => some (gi z)) (gb_f (by unfold gsh; omega)).symm), rfl⟩
    ·
      refine G.go hX 7 (bxW W H M P c wt rows gro wx wy mk, 39, [(0, gr 2), (1, gi i)], [gi 3, gi i, gr 2, gi (gro 1)]) rfl ?_ ?_
      · refine ⟨?_, trivial⟩
        · omega
      refine G.callV (av := [gi i, gi 3]) (o := 2) (st := [gi (gro 1)]) hX rfl (fun l D cA => c_X1_tell l D cA W H M P c wt rows gro wx wy mk i 3 (by first | assumption | omega) (by first | assumption | omega)) (by decide +kernel) aX1_tell rfl rfl rfl ⟨rfl, rfl⟩ (by decide) (Nat.le_of_ble_eq_true rfl) [0, 1, 2, 3, 4, 5] [] [] rfl rfl rfl (fun r w' hp => ?_)
      obtain ⟨rfl, rfl⟩ := hp
      show G X mX1_sharesPlace ad 0 0 (bxW W H M P c wt rows gro wx wy mk, 42, [(0, gr 2), (1, gi i)], [gi (rows (i * 5 + 3)), gi (gro 1)])
      refine g_icmp_gt hX 64 rfl rfl (by first | exact hgr _ | exact hrr _) (by first | exact hgr _ | exact hrr _) (fun b42 => ?_) (fun b42 => ?_)
      ·
        refine G.go hX 1 (bxW W H M P c wt rows gro wx wy mk, 65, [(0, gr 2), (1, gi i)], [gi 0]) rfl trivial ?_
        exact g_zret hX hE rfl (Or.inl rfl) ⟨(congrArg (fun z => some (gi z)) (gb_f (by unfold gsh; omega)).symm), rfl⟩
      ·
        refine G.go hX 3 (bxW W H M P c wt rows gro wx wy mk, 48, [(0, gr 2), (1, gi i)], [gi 1, gi i, gr 2]) rfl trivial ?_
        refine G.callV (av := [gi i, gi 1]) (o := 2) (st := []) hX rfl (fun l D cA => c_X1_tell l D cA W H M P c wt rows gro wx wy mk i 1 (by first | assumption | omega) (by first | assumption | omega)) (by decide +kernel) aX1_tell rfl rfl rfl ⟨rfl, rfl⟩ (by decide) (Nat.le_of_ble_eq_true rfl) [0, 1, 2, 3, 4, 5] [] [] rfl rfl rfl (fun r w' hp => ?_)
        obtain ⟨rfl, rfl⟩ := hp
        show G X mX1_sharesPlace ad 0 0 (bxW W H M P c wt rows gro wx wy mk, 51, [(0, gr 2), (1, gi i)], [gi (rows (i * 5 + 1))])
        refine G.go hX 4 (bxW W H M P c wt rows gro wx wy mk, 57, [(0, gr 2), (1, gi i)], [gi (gro 3), gi (rows (i * 5 + 1))]) rfl ?_ ?_
        · refine ⟨?_, trivial⟩
          · omega
        refine g_icmp_gt hX 64 rfl rfl (by first | exact hgr _ | exact hrr _) (by first | exact hgr _ | exact hrr _) (fun b57 => ?_) (fun b57 => ?_)
        ·
          refine G.go hX 1 (bxW W H M P c wt rows gro wx wy mk, 65, [(0, gr 2), (1, gi i)], [gi 0]) rfl trivial ?_
          exact g_zret hX hE rfl (Or.inl rfl) ⟨(congrArg (fun z => some (gi z)) (gb_f (by unfold gsh; omega)).symm), rfl⟩
        ·
          refine G.go hX 2 (bxW W H M P c wt rows gro wx wy mk, 65, [(0, gr 2), (1, gi i)], [gi 1]) rfl trivial ?_
          exact g_zret hX hE rfl (Or.inr rfl) ⟨(congrArg (fun z => some (gi z)) (gb_t (by unfold gsh; omega)).symm), rfl⟩
set_option maxHeartbeats 4000000 in
set_option maxRecDepth 100000 in
theorem c_X1_comesBefore (l : Launch) (D : va_G) (cA : Nat → ClassId) (W : Nat) (H : Nat) (M : Nat) (P : Nat) (c : Int) (wt : Int) (rows : Int → Int) (gro : Int → Int) (wx : Int → Int) (wy : Int → Int) (mk : Int → Int) (i : Int) (j : Int) (hM : M ≤ 256) (hi : 0 ≤ i ∧ i < M) (hj : 0 ≤ j ∧ j < M) (hrr : ∀ j : Int, inR (rows j)) :
    gC l D cA yX1_comesBefore mX1_comesBefore (some .boolean) 0 0 [gr 2, gi i, gi j] (bxW W H M P c wt rows gro wx wy mk) (fun r9 w9 => r9 = some (gi (gb (gbf rows i j))) ∧ w9 = bxW W H M P c wt rows gro wx wy mk) := by
  refine gC_of rfl kX1_comesBefore rfl rfl (Nat.le_of_ble_eq_true rfl) (fun X ad hX hE => ?_)
  refine G.go hX 3 (bxW W H M P c wt rows gro wx wy mk, 3, [(0, gr 2), (1, gi i), (2, gi j)], [gi 1, gi i, gr 2]) rfl trivial ?_
  refine G.callV (av := [gi i, gi 1]) (o := 2) (st := []) hX rfl (fun l D cA => c_X1_tell l D cA W H M P c wt rows gro wx wy mk i 1 (by first | assumption | omega) (by first | assumption | omega)) (by decide +kernel) aX1_tell rfl rfl rfl ⟨rfl, rfl⟩ (by decide) (Nat.le_of_ble_eq_true rfl) [0, 1, 2, 3, 4, 5] [] [] rfl rfl rfl (fun r w' hp => ?_)
  obtain ⟨rfl, rfl⟩ := hp
  show G X mX1_comesBefore ad 0 0 (bxW W H M P c wt rows gro wx wy mk, 6, [(0, gr 2), (1, gi i), (2, gi j)], [gi (rows (i * 5 + 1))])
  refine G.go hX 3 (bxW W H M P c wt rows gro wx wy mk, 9, [(0, gr 2), (1, gi i), (2, gi j)], [gi 1, gi j, gr 2, gi (rows (i * 5 + 1))]) rfl trivial ?_
  refine G.callV (av := [gi j, gi 1]) (o := 2) (st := [gi (rows (i * 5 + 1))]) hX rfl (fun l D cA => c_X1_tell l D cA W H M P c wt rows gro wx wy mk j 1 (by first | assumption | omega) (by first | assumption | omega)) (by decide +kernel) aX1_tell rfl rfl rfl ⟨rfl, rfl⟩ (by decide) (Nat.le_of_ble_eq_true rfl) [0, 1, 2, 3, 4, 5] [] [] rfl rfl rfl (fun r w' hp => ?_)
  obtain ⟨rfl, rfl⟩ := hp
  show G X mX1_comesBefore ad 0 0 (bxW W H M P c wt rows gro wx wy mk, 12, [(0, gr 2), (1, gi i), (2, gi j)], [gi (rows (j * 5 + 1)), gi (rows (i * 5 + 1))])
  refine g_icmp_eq hX 36 rfl rfl (hrr _) (hrr _) (fun b12 => ?_) (fun b12 => ?_)
  ·
    refine G.go hX 3 (bxW W H M P c wt rows gro wx wy mk, 39, [(0, gr 2), (1, gi i), (2, gi j)], [gi 0, gi i, gr 2]) rfl trivial ?_
    refine G.callV (av := [gi i, gi 0]) (o := 2) (st := []) hX rfl (fun l D cA => c_X1_tell l D cA W H M P c wt rows gro wx wy mk i 0 (by first | assumption | omega) (by first | assumption | omega)) (by decide +kernel) aX1_tell rfl rfl rfl ⟨rfl, rfl⟩ (by decide) (Nat.le_of_ble_eq_true rfl) [0, 1, 2, 3, 4, 5] [] [] rfl rfl rfl (fun r w' hp => ?_)
    obtain ⟨rfl, rfl⟩ := hp
    show G X mX1_comesBefore ad 0 0 (bxW W H M P c wt rows gro wx wy mk, 42, [(0, gr 2), (1, gi i), (2, gi j)], [gi (rows (i * 5 + 0))])
    refine G.go hX 3 (bxW W H M P c wt rows gro wx wy mk, 45, [(0, gr 2), (1, gi i), (2, gi j)], [gi 0, gi j, gr 2, gi (rows (i * 5 + 0))]) rfl trivial ?_
    refine G.callV (av := [gi j, gi 0]) (o := 2) (st := [gi (rows (i * 5 + 0))]) hX rfl (fun l D cA => c_X1_tell l D cA W H M P c wt rows gro wx wy mk j 0 (by first | assumption | omega) (by first | assumption | omega)) (by decide +kernel) aX1_tell rfl rfl rfl ⟨rfl, rfl⟩ (by decide) (Nat.le_of_ble_eq_true rfl) [0, 1, 2, 3, 4, 5] [] [] rfl rfl rfl (fun r w' hp => ?_)
    obtain ⟨rfl, rfl⟩ := hp
    show G X mX1_comesBefore ad 0 0 (bxW W H M P c wt rows gro wx wy mk, 48, [(0, gr 2), (1, gi i), (2, gi j)], [gi (rows (j * 5 + 0)), gi (rows (i * 5 + 0))])
    refine g_icmp_ge hX 55 rfl rfl (hrr _) (hrr _) (fun b48 => ?_) (fun b48 => ?_)
    ·
      refine G.go hX 1 (bxW W H M P c wt rows gro wx wy mk, 56, [(0, gr 2), (1, gi i), (2, gi j)], [gi 0]) rfl trivial ?_
      exact g_zret hX hE rfl (Or.inl rfl) ⟨(congrArg (fun z => some (gi z)) (gb_f (by unfold gbf; omega)).symm), rfl⟩
    ·
      refine G.go hX 2 (bxW W H M P c wt rows gro wx wy mk, 56, [(0, gr 2), (1, gi i), (2, gi j)], [gi 1]) rfl trivial ?_
      exact g_zret hX hE rfl (Or.inr rfl) ⟨(congrArg (fun z => some (gi z)) (gb_t (by unfold gbf; omega)).symm), rfl⟩
  ·
    refine G.go hX 3 (bxW W H M P c wt rows gro wx wy mk, 18, [(0, gr 2), (1, gi i), (2, gi j)], [gi 1, gi i, gr 2]) rfl trivial ?_
    refine G.callV (av := [gi i, gi 1]) (o := 2) (st := []) hX rfl (fun l D cA => c_X1_tell l D cA W H M P c wt rows gro wx wy mk i 1 (by first | assumption | omega) (by first | assumption | omega)) (by decide +kernel) aX1_tell rfl rfl rfl ⟨rfl, rfl⟩ (by decide) (Nat.le_of_ble_eq_true rfl) [0, 1, 2, 3, 4, 5] [] [] rfl rfl rfl (fun r w' hp => ?_)
    obtain ⟨rfl, rfl⟩ := hp
    show G X mX1_comesBefore ad 0 0 (bxW W H M P c wt rows gro wx wy mk, 21, [(0, gr 2), (1, gi i), (2, gi j)], [gi (rows (i * 5 + 1))])
    refine G.go hX 3 (bxW W H M P c wt rows gro wx wy mk, 24, [(0, gr 2), (1, gi i), (2, gi j)], [gi 1, gi j, gr 2, gi (rows (i * 5 + 1))]) rfl trivial ?_
    refine G.callV (av := [gi j, gi 1]) (o := 2) (st := [gi (rows (i * 5 + 1))]) hX rfl (fun l D cA => c_X1_tell l D cA W H M P c wt rows gro wx wy mk j 1 (by first | assumption | omega) (by first | assumption | omega)) (by decide +kernel) aX1_tell rfl rfl rfl ⟨rfl, rfl⟩ (by decide) (Nat.le_of_ble_eq_true rfl) [0, 1, 2, 3, 4, 5] [] [] rfl rfl rfl (fun r w' hp => ?_)
    obtain ⟨rfl, rfl⟩ := hp
    show G X mX1_comesBefore ad 0 0 (bxW W H M P c wt rows gro wx wy mk, 27, [(0, gr 2), (1, gi i), (2, gi j)], [gi (rows (j * 5 + 1)), gi (rows (i * 5 + 1))])
    refine g_icmp_ge hX 34 rfl rfl (hrr _) (hrr _) (fun b27 => ?_) (fun b27 => ?_)
    ·
      refine G.go hX 1 (bxW W H M P c wt rows gro wx wy mk, 35, [(0, gr 2), (1, gi i), (2, gi j)], [gi 0]) rfl trivial ?_
      exact g_zret hX hE rfl (Or.inl rfl) ⟨(congrArg (fun z => some (gi z)) (gb_f (by unfold gbf; omega)).symm), rfl⟩
    ·
      refine G.go hX 2 (bxW W H M P c wt rows gro wx wy mk, 35, [(0, gr 2), (1, gi i), (2, gi j)], [gi 1]) rfl trivial ?_
      exact g_zret hX hE rfl (Or.inr rfl) ⟨(congrArg (fun z => some (gi z)) (gb_t (by unfold gbf; omega)).symm), rfl⟩
set_option maxHeartbeats 4000000 in
set_option maxRecDepth 100000 in
theorem c_X1_widen (l : Launch) (D : va_G) (cA : Nat → ClassId) (W : Nat) (H : Nat) (M : Nat) (P : Nat) (c : Int) (wt : Int) (rows : Int → Int) (gro : Int → Int) (wx : Int → Int) (wy : Int → Int) (mk : Int → Int) (x1 : Int) (x2 : Int) (x3 : Int) (x4 : Int) (hgr : ∀ j : Int, inR (gro j)) (h1 : inR x1) (h2 : inR x2) (h3 : inR x3) (h4 : inR x4) :
    gC l D cA yX1_widen mX1_widen none 0 0 [gr 2, gi x1, gi x2, gi x3, gi x4] (bxW W H M P c wt rows gro wx wy mk) (fun r9 w9 => r9 = none ∧ w9 = bxW W H M P c wt rows (gwd gro x1 x2 x3 x4) wx wy mk) := by
  refine gC_of rfl kX1_widen rfl rfl (Nat.le_of_ble_eq_true rfl) (fun X ad hX hE => ?_)
  refine G.go hX 8 (bxW W H M P c wt rows gro wx wy mk, 12, [(0, gr 2), (1, gi x1), (2, gi x2), (3, gi x3), (4, gi x4)], [gi x1, gi (gro 0), gi 0, gr 8]) rfl ?_ ?_
  · refine ⟨?_, trivial⟩
    · omega
  refine g_mmin hX rfl (by decide +kernel) ⟨⟨by decide, Nat.le_of_ble_eq_true rfl⟩, by decide, by decide⟩ (by first | exact hgr _ | assumption | exact ⟨by simp [gu] <;> have := hgr 0 <;> omega, by omega⟩) (by first | exact hgr _ | assumption | exact ⟨by simp [gu] <;> have := hgr 0 <;> omega, by omega⟩) ?_
  show G X mX1_widen ad 0 0 (bxW W H M P c wt rows gro wx wy mk, 15, [(0, gr 2), (1, gi x1), (2, gi x2), (3, gi x3), (4, gi x4)], [gi (min (gro 0) x1), gi 0, gr 8])
  refine G.go hX 9 (bxW W H M P c wt rows (gu gro 0 (min (gro 0) x1)) wx wy mk, 28, [(0, gr 2), (1, gi x1), (2, gi x2), (3, gi x3), (4, gi x4)], [gi x2, gi ((gu gro 0 (min (gro 0) x1)) 1), gi 1, gr 8]) rfl ?_ ?_
  · refine ⟨?_, ?_, trivial⟩
    · omega
    · omega
  refine g_mmin hX rfl (by decide +kernel) ⟨⟨by decide, Nat.le_of_ble_eq_true rfl⟩, by decide, by decide⟩ (by first | exact hgr _ | assumption | exact ⟨by simp [gu] <;> have := hgr 0 <;> omega, by omega⟩) (by first | exact hgr _ | assumption | exact ⟨by simp [gu] <;> have := hgr 0 <;> omega, by omega⟩) ?_
  show G X mX1_widen ad 0 0 (bxW W H M P c wt rows (gu gro 0 (min (gro 0) x1)) wx wy mk, 31, [(0, gr 2), (1, gi x1), (2, gi x2), (3, gi x3), (4, gi x4)], [gi (min ((gu gro 0 (min (gro 0) x1)) 1) x2), gi 1, gr 8])
  refine G.go hX 9 (bxW W H M P c wt rows (gu (gu gro 0 (min (gro 0) x1)) 1 (min ((gu gro 0 (min (gro 0) x1)) 1) x2)) wx wy mk, 44, [(0, gr 2), (1, gi x1), (2, gi x2), (3, gi x3), (4, gi x4)], [gi x3, gi ((gu (gu gro 0 (min (gro 0) x1)) 1 (min ((gu gro 0 (min (gro 0) x1)) 1) x2)) 2), gi 2, gr 8]) rfl ?_ ?_
  · refine ⟨?_, ?_, trivial⟩
    · omega
    · omega
  refine g_mmax hX rfl (by decide +kernel) ⟨⟨by decide, Nat.le_of_ble_eq_true rfl⟩, by decide, by decide⟩ (by first | exact hgr _ | assumption | exact ⟨by simp [gu] <;> have := hgr 0 <;> omega, by omega⟩) (by first | exact hgr _ | assumption | exact ⟨by simp [gu] <;> have := hgr 0 <;> omega, by omega⟩) ?_
  show G X mX1_widen ad 0 0 (bxW W H M P c wt rows (gu (gu gro 0 (min (gro 0) x1)) 1 (min ((gu gro 0 (min (gro 0) x1)) 1) x2)) wx wy mk, 47, [(0, gr 2), (1, gi x1), (2, gi x2), (3, gi x3), (4, gi x4)], [gi (max ((gu (gu gro 0 (min (gro 0) x1)) 1 (min ((gu gro 0 (min (gro 0) x1)) 1) x2)) 2) x3), gi 2, gr 8])
  refine G.go hX 9 (bxW W H M P c wt rows (gu (gu (gu gro 0 (min (gro 0) x1)) 1 (min ((gu gro 0 (min (gro 0) x1)) 1) x2)) 2 (max ((gu (gu gro 0 (min (gro 0) x1)) 1 (min ((gu gro 0 (min (gro 0) x1)) 1) x2)) 2) x3)) wx wy mk, 61, [(0, gr 2), (1, gi x1), (2, gi x2), (3, gi x3), (4, gi x4)], [gi x4, gi ((gu (gu (gu gro 0 (min (gro 0) x1)) 1 (min ((gu gro 0 (min (gro 0) x1)) 1) x2)) 2 (max ((gu (gu gro 0 (min (gro 0) x1)) 1 (min ((gu gro 0 (min (gro 0) x1)) 1) x2)) 2) x3)) 3), gi 3, gr 8]) rfl ?_ ?_
  · refine ⟨?_, ?_, trivial⟩
    · omega
    · omega
  refine g_mmax hX rfl (by decide +kernel) ⟨⟨by decide, Nat.le_of_ble_eq_true rfl⟩, by decide, by decide⟩ (by first | exact hgr _ | assumption | exact ⟨by simp [gu] <;> have := hgr 0 <;> omega, by omega⟩) (by first | exact hgr _ | assumption | exact ⟨by simp [gu] <;> have := hgr 0 <;> omega, by omega⟩) ?_
  show G X mX1_widen ad 0 0 (bxW W H M P c wt rows (gu (gu (gu gro 0 (min (gro 0) x1)) 1 (min ((gu gro 0 (min (gro 0) x1)) 1) x2)) 2 (max ((gu (gu gro 0 (min (gro 0) x1)) 1 (min ((gu gro 0 (min (gro 0) x1)) 1) x2)) 2) x3)) wx wy mk, 64, [(0, gr 2), (1, gi x1), (2, gi x2), (3, gi x3), (4, gi x4)], [gi (max ((gu (gu (gu gro 0 (min (gro 0) x1)) 1 (min ((gu gro 0 (min (gro 0) x1)) 1) x2)) 2 (max ((gu (gu gro 0 (min (gro 0) x1)) 1 (min ((gu gro 0 (min (gro 0) x1)) 1) x2)) 2) x3)) 3) x4), gi 3, gr 8])
  refine G.go hX 1 (bxW W H M P c wt rows (gu (gu (gu (gu gro 0 (min (gro 0) x1)) 1 (min ((gu gro 0 (min (gro 0) x1)) 1) x2)) 2 (max ((gu (gu gro 0 (min (gro 0) x1)) 1 (min ((gu gro 0 (min (gro 0) x1)) 1) x2)) 2) x3)) 3 (max ((gu (gu (gu gro 0 (min (gro 0) x1)) 1 (min ((gu gro 0 (min (gro 0) x1)) 1) x2)) 2 (max ((gu (gu gro 0 (min (gro 0) x1)) 1 (min ((gu gro 0 (min (gro 0) x1)) 1) x2)) 2) x3)) 3) x4)) wx wy mk, 65, [(0, gr 2), (1, gi x1), (2, gi x2), (3, gi x3), (4, gi x4)], []) rfl ?_ ?_
  · refine ⟨?_, trivial⟩
    · omega
  exact g_vret hX hE rfl ⟨rfl, (by first | rfl | (simp [gu, gwd]))⟩
set_option maxHeartbeats 4000000 in
set_option maxRecDepth 100000 in
theorem c_X1_take (l : Launch) (D : va_G) (cA : Nat → ClassId) (W : Nat) (H : Nat) (M : Nat) (P : Nat) (c : Int) (wt : Int) (rows : Int → Int) (gro : Int → Int) (wx : Int → Int) (wy : Int → Int) (mk : Int → Int) (x : Int) (y : Int) (hyx : 0 ≤ y * W + x ∧ y * W + x < P) (hPl : P ≤ 1024) (hwt : 0 ≤ wt ∧ wt < P) :
    gC l D cA yX1_take mX1_take none 0 0 [gr 2, gi x, gi y, gr 6] (bxW W H M P c wt rows gro wx wy mk) (fun r9 w9 => r9 = none ∧ w9 = bxW W H M P c (wt + 1) rows gro (gu wx wt x) (gu wy wt y) (gu mk (y * W + x) 0)) := by
  refine gC_of rfl kX1_take rfl rfl (Nat.le_of_ble_eq_true rfl) (fun X ad hX hE => ?_)
  refine G.go hX 14 (bxW W H M P c wt rows gro wx wy (gu mk ((y * W) + x) 0), 20, [(0, gr 2), (1, gi x), (2, gi y), (3, gr 6)], [gi ((P : Nat) : Int), gi wt]) rfl ?_ ?_
  · refine ⟨?_, trivial⟩
    · omega
  refine g_icmp_ge hX 53 rfl rfl ⟨by omega, by omega⟩ ⟨by omega, by omega⟩ (fun b20 => ?_) (fun b20 => ?_)
  ·
    exfalso
    omega
  ·
    refine G.go hX 18 (bxW W H M P c (wt + 1) rows gro (gu wx wt x) (gu wy wt y) (gu mk ((y * W) + x) 0), 53, [(0, gr 2), (1, gi x), (2, gi y), (3, gr 6)], []) rfl ?_ ?_
    · refine ⟨?_, ?_, trivial⟩
      · omega
      · omega
    exact g_vret hX hE rfl ⟨rfl, (by first | rfl | (omega))⟩
