set_option maxHeartbeats 4000000 in
set_option maxRecDepth 100000 in
theorem c_X1_takeAround (l : Launch) (D : va_G) (cA : Nat → ClassId) (W : Nat) (H : Nat) (M : Nat) (P : Nat) (c : Int) (wt : Int) (rows : Int → Int) (gro : Int → Int) (wx : Int → Int) (wy : Int → Int) (mk : Int → Int) (x : Int) (y : Int) (r : Int) (F : (Int → Int) → Int → (Int → Int) → (Int → Int) → Prop) (hW : W ≤ 32) (hH : H ≤ 32) (hP : P = W * H) (hPl : P ≤ 1024) (hx : 0 ≤ x ∧ x < W) (hy : 0 ≤ y ∧ y < H) (hr : 0 ≤ r ∧ r ≤ 3) (hst : ∀ (mk : Int → Int) (wt : Int) (wx wy : Int → Int) (px py : Int), F mk wt wx wy → 0 ≤ px → px < W → 0 ≤ py → py < H → x - r ≤ px → px ≤ x + r → y - r ≤ py → py ≤ y + r → mk (py * W + px) = 1 → F (gu mk (py * W + px) 0) (wt + 1) (gu wx wt px) (gu wy wt py)) (hok : ∀ (mk : Int → Int) (wt : Int) (wx wy : Int → Int), F mk wt wx wy → (∀ q, mk q = 0 ∨ mk q = 1) ∧ 0 ≤ wt ∧ wt + gsm mk P ≤ P) (hF : F mk wt wx wy) :
    gC l D cA yX1_takeAround mX1_takeAround none 0 0 [gr 2, gi x, gi y, gr 6, gi r] (bxW W H M P c wt rows gro wx wy mk) (fun r9 w9 => ∃ (mk2 : Int → Int) (wt2 : Int) (wx2 : Int → Int) (wy2 : Int → Int), r9 = none ∧ w9 = bxW W H M P c wt2 rows gro wx2 wy2 mk2 ∧ (F mk2 wt2 wx2 wy2) ∧ (gscn W H x y r mk2 (y + r + 1) 0)) := by
  refine gC_of rfl kX1_takeAround rfl rfl (Nat.le_of_ble_eq_true rfl) (fun X ad hX hE => ?_)
  refine G.go hX 7 (bxW W H M P c wt rows gro wx wy mk, 10, [(0, gr 2), (1, gi x), (2, gi y), (3, gr 6), (4, gi r)], [gi (x + r), gi (W - 1)]) rfl trivial ?_
  refine g_mmin hX rfl (by decide +kernel) ⟨⟨by decide, Nat.le_of_ble_eq_true rfl⟩, by decide, by decide⟩ ⟨by omega, by omega⟩ ⟨by omega, by omega⟩ ?_
  show G X mX1_takeAround ad 0 0 (bxW W H M P c wt rows gro wx wy mk, 13, [(0, gr 2), (1, gi x), (2, gi y), (3, gr 6), (4, gi r)], [gi (min (W - 1) (x + r))])
  refine G.go hX 8 (bxW W H M P c wt rows gro wx wy mk, 25, [(0, gr 2), (1, gi x), (2, gi y), (3, gr 6), (4, gi r), (5, gi (min (W - 1) (x + r)))], [gi (y + r), gi (H - 1)]) rfl trivial ?_
  refine g_mmin hX rfl (by decide +kernel) ⟨⟨by decide, Nat.le_of_ble_eq_true rfl⟩, by decide, by decide⟩ ⟨by omega, by omega⟩ ⟨by omega, by omega⟩ ?_
  show G X mX1_takeAround ad 0 0 (bxW W H M P c wt rows gro wx wy mk, 28, [(0, gr 2), (1, gi x), (2, gi y), (3, gr 6), (4, gi r), (5, gi (min (W - 1) (x + r)))], [gi (min (H - 1) (y + r))])
  refine G.go hX 5 (bxW W H M P c wt rows gro wx wy mk, 35, [(0, gr 2), (1, gi x), (2, gi y), (3, gr 6), (4, gi r), (5, gi (min (W - 1) (x + r))), (6, gi (min (H - 1) (y + r)))], [gi (y - r), gi 0]) rfl trivial ?_
  refine g_mmax hX rfl (by decide +kernel) ⟨⟨by decide, Nat.le_of_ble_eq_true rfl⟩, by decide, by decide⟩ ⟨by omega, by omega⟩ ⟨by omega, by omega⟩ ?_
  show G X mX1_takeAround ad 0 0 (bxW W H M P c wt rows gro wx wy mk, 38, [(0, gr 2), (1, gi x), (2, gi y), (3, gr 6), (4, gi r), (5, gi (min (W - 1) (x + r))), (6, gi (min (H - 1) (y + r)))], [gi (max 0 (y - r))])
  refine G.go hX 1 (bxW W H M P c wt rows gro wx wy mk, 40, [(0, gr 2), (1, gi x), (2, gi y), (3, gr 6), (4, gi r), (5, gi (min (W - 1) (x + r))), (6, gi (min (H - 1) (y + r))), (7, gi (max 0 (y - r)))], []) rfl trivial ?_
  have lp40 : ∀ (n : Nat) (ro : Int) (mk1 : Int → Int) (wt1 : Int) (wx1 : Int → Int) (wy1 : Int → Int), (F mk1 wt1 wx1 wy1) → (0 ≤ ro ∧ y - r ≤ ro ∧ ro ≤ min ((H : Int) - 1) (y + r) + 1) → (gscn W H x y r mk1 ro 0) → (min ((H : Int) - 1) (y + r) + 1 - ro).toNat < n → G X mX1_takeAround ad 0 0 (bxW W H M P c wt1 rows gro wx1 wy1 mk1, 40, [(0, gr 2), (1, gi x), (2, gi y), (3, gr 6), (4, gi r), (5, gi (min ((W : Int) - 1) (x + r))), (6, gi (min ((H : Int) - 1) (y + r))), (7, gi ro)], []) := by
    intro n
    induction n with
    | zero => intro ro mk1 wt1 wx1 wy1 hF1 hro hs1 hm9; exact absurd hm9 (Nat.not_lt_zero _)
    | succ n ih40 =>
      intro ro mk1 wt1 wx1 wy1 hF1 hro hs1 hm40
      refine G.go hX 2 (bxW W H M P c wt1 rows gro wx1 wy1 mk1, 44, [(0, gr 2), (1, gi x), (2, gi y), (3, gr 6), (4, gi r), (5, gi (min ((W : Int) - 1) (x + r))), (6, gi (min ((H : Int) - 1) (y + r))), (7, gi ro)], [gi (min ((H : Int) - 1) (y + r)), gi ro]) rfl trivial ?_
      refine g_icmp_gt hX 100 rfl rfl ⟨by omega, by omega⟩ ⟨by omega, by omega⟩ (fun b44 => ?_) (fun b44 => ?_)
      ·
        exact g_vret hX hE rfl ⟨mk1, wt1, wx1, wy1, rfl, rfl, hF1, fun px py a1 a2 a3 a4 a5 a6 a7 a8 h9 => hs1 px py a1 a2 a3 a4 a5 a6 a7 a8 (by omega)⟩
      ·
        refine G.go hX 4 (bxW W H M P c wt1 rows gro wx1 wy1 mk1, 52, [(0, gr 2), (1, gi x), (2, gi y), (3, gr 6), (4, gi r), (5, gi (min ((W : Int) - 1) (x + r))), (6, gi (min ((H : Int) - 1) (y + r))), (7, gi ro)], [gi (x - r), gi 0]) rfl trivial ?_
        refine g_mmax hX rfl (by decide +kernel) ⟨⟨by decide, Nat.le_of_ble_eq_true rfl⟩, by decide, by decide⟩ ⟨by omega, by omega⟩ ⟨by omega, by omega⟩ ?_
        show G X mX1_takeAround ad 0 0 (bxW W H M P c wt1 rows gro wx1 wy1 mk1, 55, [(0, gr 2), (1, gi x), (2, gi y), (3, gr 6), (4, gi r), (5, gi (min ((W : Int) - 1) (x + r))), (6, gi (min ((H : Int) - 1) (y + r))), (7, gi ro)], [gi (max 0 (x - r))])
        refine G.go hX 1 (bxW W H M P c wt1 rows gro wx1 wy1 mk1, 57, [(0, gr 2), (1, gi x), (2, gi y), (3, gr 6), (4, gi r), (5, gi (min ((W : Int) - 1) (x + r))), (6, gi (min ((H : Int) - 1) (y + r))), (7, gi ro), (8, gi (max 0 (x - r)))], []) rfl trivial ?_
        have lp57 : ∀ (n : Nat) (co : Int) (mk3 : Int → Int) (wt3 : Int) (wx3 : Int → Int) (wy3 : Int → Int), (F mk3 wt3 wx3 wy3) → (0 ≤ co ∧ x - r ≤ co ∧ co ≤ min ((W : Int) - 1) (x + r) + 1) → (gscn W H x y r mk3 ro co) → (min ((W : Int) - 1) (x + r) + 1 - co).toNat < n → G X mX1_takeAround ad 0 0 (bxW W H M P c wt3 rows gro wx3 wy3 mk3, 57, [(0, gr 2), (1, gi x), (2, gi y), (3, gr 6), (4, gi r), (5, gi (min ((W : Int) - 1) (x + r))), (6, gi (min ((H : Int) - 1) (y + r))), (7, gi ro), (8, gi co)], []) := by
          intro n
          induction n with
          | zero => intro co mk3 wt3 wx3 wy3 hF3 hco hs3 hm9; exact absurd hm9 (Nat.not_lt_zero _)
          | succ n ih57 =>
            intro co mk3 wt3 wx3 wy3 hF3 hco hs3 hm57
            refine G.go hX 2 (bxW W H M P c wt3 rows gro wx3 wy3 mk3, 61, [(0, gr 2), (1, gi x), (2, gi y), (3, gr 6), (4, gi r), (5, gi (min ((W : Int) - 1) (x + r))), (6, gi (min ((H : Int) - 1) (y + r))), (7, gi ro), (8, gi co)], [gi (min ((W : Int) - 1) (x + r)), gi co]) rfl trivial ?_
            refine g_icmp_gt hX 94 rfl rfl ⟨by omega, by omega⟩ ⟨by omega, by omega⟩ (fun b61 => ?_) (fun b61 => ?_)
            ·
              refine G.go hX 2 (bxW W H M P c wt3 rows gro wx3 wy3 mk3, 40, [(0, gr 2), (1, gi x), (2, gi y), (3, gr 6), (4, gi r), (5, gi (min ((W : Int) - 1) (x + r))), (6, gi (min ((H : Int) - 1) (y + r))), (7, gi (ro + 1)), (8, gi co)], []) rfl trivial ?_
              refine G.locs [(0, gr 2), (1, gi x), (2, gi y), (3, gr 6), (4, gi r), (5, gi (min ((W : Int) - 1) (x + r))), (6, gi (min ((H : Int) - 1) (y + r))), (7, gi (ro + 1))] [0, 1, 2, 3, 4, 5, 6, 7] rfl ?_
              exact ih40 (ro + 1) mk3 wt3 wx3 wy3 (by exact hF3) (by omega) (by exact gscn_row hs3 (by omega) 0 (by omega)) (by omega)
            ·
              have hix := gix hP (x := co) (y := ro) (by omega) (by omega) (by omega) (by omega)
              have hbo := (hok _ _ _ _ hF3).1 (ro * W + co)
              refine G.go hX 8 (bxW W H M P c wt3 rows gro wx3 wy3 mk3, 76, [(0, gr 2), (1, gi x), (2, gi y), (3, gr 6), (4, gi r), (5, gi (min ((W : Int) - 1) (x + r))), (6, gi (min ((H : Int) - 1) (y + r))), (7, gi ro), (8, gi co)], [gi (mk3 ((ro * W) + co))]) rfl ?_ ?_
              · refine ⟨?_, trivial⟩
                · omega
              refine g_if_eq hX 88 rfl rfl (by rcases hbo with h9 | h9 <;> rw [h9] <;> exact ⟨by omega, by omega⟩) (fun b76 => ?_) (fun b76 => ?_)
              ·
                refine G.go hX 2 (bxW W H M P c wt3 rows gro wx3 wy3 mk3, 57, [(0, gr 2), (1, gi x), (2, gi y), (3, gr 6), (4, gi r), (5, gi (min ((W : Int) - 1) (x + r))), (6, gi (min ((H : Int) - 1) (y + r))), (7, gi ro), (8, gi (co + 1))], []) rfl trivial ?_
                exact ih57 (co + 1) mk3 wt3 wx3 wy3 (by exact hF3) (by omega) (by exact gscn_skip hs3 (by assumption)) (by omega)
              ·
                have hm1 : mk3 (ro * W + co) = 1 := by omega
                have hgp := gsm_pos (hok _ _ _ _ hF3).1 hm1 P hix.1 hix.2
                have hwo := (hok _ _ _ _ hF3).2
                refine G.go hX 4 (bxW W H M P c wt3 rows gro wx3 wy3 mk3, 85, [(0, gr 2), (1, gi x), (2, gi y), (3, gr 6), (4, gi r), (5, gi (min ((W : Int) - 1) (x + r))), (6, gi (min ((H : Int) - 1) (y + r))), (7, gi ro), (8, gi co)], [gr 6, gi ro, gi co, gr 2]) rfl trivial ?_
                refine G.callV (av := [gi co, gi ro, gr 6]) (o := 2) (st := []) hX rfl (fun l D cA => c_X1_take l D cA W H M P c wt3 rows gro wx3 wy3 mk3 co ro (by first | assumption | omega) (by first | assumption | omega) (by first | assumption | omega)) (by decide +kernel) aX1_take rfl rfl rfl ⟨rfl, rfl⟩ (by decide) (Nat.le_of_ble_eq_true rfl) [0, 1, 2, 3, 4, 5] [] [] rfl rfl rfl (fun r w' hp => ?_)
                obtain ⟨rfl, rfl⟩ := hp
                show G X mX1_takeAround ad 0 0 (bxW W H M P c (wt3 + 1) rows gro (gu wx3 wt3 co) (gu wy3 wt3 ro) (gu mk3 (ro * W + co) 0), 88, [(0, gr 2), (1, gi x), (2, gi y), (3, gr 6), (4, gi r), (5, gi (min ((W : Int) - 1) (x + r))), (6, gi (min ((H : Int) - 1) (y + r))), (7, gi ro), (8, gi co)], [])
                refine G.go hX 2 (bxW W H M P c (wt3 + 1) rows gro (gu wx3 wt3 co) (gu wy3 wt3 ro) (gu mk3 (ro * W + co) 0), 57, [(0, gr 2), (1, gi x), (2, gi y), (3, gr 6), (4, gi r), (5, gi (min ((W : Int) - 1) (x + r))), (6, gi (min ((H : Int) - 1) (y + r))), (7, gi ro), (8, gi (co + 1))], []) rfl trivial ?_
                exact ih57 (co + 1) (gu mk3 (ro * W + co) 0) (wt3 + 1) (gu wx3 wt3 co) (gu wy3 wt3 ro) (by exact hst _ _ _ _ _ _ hF3 (by omega) (by omega) (by omega) (by omega) (by omega) (by omega) (by omega) (by omega) hm1) (by omega) (by exact gscn_take hs3) (by omega)
        exact lp57 _ (max 0 (x - r)) mk1 wt1 wx1 wy1 (by exact hF1) (by omega) (by intro px py _ _ _ _ _ _ _ _ h9; exact hs1 px py (by assumption) (by assumption) (by assumption) (by assumption) (by assumption) (by assumption) (by assumption) (by assumption) (by omega)) (Nat.lt_succ_self _)
  exact lp40 _ (max 0 (y - r)) mk wt wx wy (by exact hF) (by omega) (by intro px py _ _ _ _ _ _ _ _ h9; omega) (Nat.lt_succ_self _)
set_option maxHeartbeats 4000000 in
set_option maxRecDepth 100000 in
theorem c_X1_swap (l : Launch) (D : va_G) (cA : Nat → ClassId) (W : Nat) (H : Nat) (M : Nat) (P : Nat) (c : Int) (wt : Int) (rows : Int → Int) (gro : Int → Int) (wx : Int → Int) (wy : Int → Int) (mk : Int → Int) (i : Int) (j : Int) (hM : M ≤ 256) (hi : 0 ≤ i ∧ i < M) (hj : 0 ≤ j ∧ j < M) (hij : i ≠ j) :
    gC l D cA yX1_swap mX1_swap none 0 0 [gr 2, gi i, gi j] (bxW W H M P c wt rows gro wx wy mk) (fun r9 w9 => r9 = none ∧ w9 = bxW W H M P c wt (gswn rows i j 5) gro wx wy mk) := by
  refine gC_of rfl kX1_swap rfl rfl (Nat.le_of_ble_eq_true rfl) (fun X ad hX hE => ?_)
  refine G.go hX 2 (bxW W H M P c wt rows gro wx wy mk, 2, [(0, gr 2), (1, gi i), (2, gi j), (3, gi 0)], []) rfl trivial ?_
  have lp2 : ∀ (n : Nat) (n1 : Int) (ro : Int → Int), (0 ≤ n1 ∧ n1 ≤ 5) → (ro = gswn rows i j n1) → (5 - n1).toNat < n → G X mX1_swap ad 0 0 (bxW W H M P c wt ro gro wx wy mk, 2, [(0, gr 2), (1, gi i), (2, gi j), (3, gi n1)], []) := by
    intro n
    induction n with
    | zero => intro n1 ro hn hro hm9; exact absurd hm9 (Nat.not_lt_zero _)
    | succ n ih2 =>
      intro n1 ro hn hro hm2
      refine G.go hX 2 (bxW W H M P c wt ro gro wx wy mk, 4, [(0, gr 2), (1, gi i), (2, gi j), (3, gi n1)], [gi 5, gi n1]) rfl trivial ?_
      refine g_icmp_ge hX 57 rfl rfl ⟨by omega, by omega⟩ ⟨by omega, by omega⟩ (fun b4 => ?_) (fun b4 => ?_)
      ·
        exact g_vret hX hE rfl ⟨rfl, (by first | rfl | (rw [hro, show n1 = 5 by omega]))⟩
      ·
        refine G.go hX 36 (bxW W H M P c wt (gu (gu ro ((i * 5) + n1) (ro ((j * 5) + n1))) ((j * 5) + n1) (ro ((i * 5) + n1))) gro wx wy mk, 2, [(0, gr 2), (1, gi i), (2, gi j), (3, gi (n1 + 1)), (4, gi (ro ((i * 5) + n1)))], []) rfl ?_ ?_
        · refine ⟨?_, ?_, ?_, ?_, trivial⟩
          · omega
          · omega
          · omega
          · omega
        refine G.locs [(0, gr 2), (1, gi i), (2, gi j), (3, gi (n1 + 1))] [0, 1, 2, 3] rfl ?_
        exact ih2 (n1 + 1) (gu (gu ro ((i * 5) + n1) (ro ((j * 5) + n1))) ((j * 5) + n1) (ro ((i * 5) + n1))) (by omega) (by rw [hro]; exact gswn_s rows hij (by omega) (by omega)) (by omega)
  exact lp2 _ 0 rows (by omega) (by rw [gswn_0]) (Nat.lt_succ_self _)
set_option maxHeartbeats 4000000 in
set_option maxRecDepth 100000 in
theorem c_X1_keepGrown (l : Launch) (D : va_G) (cA : Nat → ClassId) (W : Nat) (H : Nat) (M : Nat) (P : Nat) (c : Int) (wt : Int) (rows : Int → Int) (gro : Int → Int) (wx : Int → Int) (wy : Int → Int) (mk : Int → Int) (hM : M ≤ 256) (hc : 0 ≤ c ∧ c < M) :
    gC l D cA yX1_keepGrown mX1_keepGrown none 0 0 [gr 2] (bxW W H M P c wt rows gro wx wy mk) (fun r9 w9 => r9 = none ∧ w9 = bxW W H M P (c + 1) wt (gcp gro rows 0 (c * 5) 5) gro wx wy mk) := by
  refine gC_of rfl kX1_keepGrown rfl rfl (Nat.le_of_ble_eq_true rfl) (fun X ad hX hE => ?_)
  refine G.go hX 4 (bxW W H M P c wt rows gro wx wy mk, 8, [(0, gr 2)], [gi M, gi c]) rfl trivial ?_
  refine g_icmp_ge hX 40 rfl rfl ⟨by omega, by omega⟩ ⟨by omega, by omega⟩ (fun b8 => ?_) (fun b8 => ?_)
  ·
    exfalso
    omega
  ·
    refine G.go hX 10 (bxW W H M P c wt rows gro wx wy mk, 27, [(0, gr 2)], [gi 5, gi (c * 5), gr 7, gi 0, gr 8]) rfl trivial ?_
    refine g_copy hX rfl (by decide +kernel) ⟨by decide, Nat.le_of_ble_eq_true rfl⟩ rfl rfl (by omega) ?_
    show G X mX1_keepGrown ad 0 0 (bxW W H M P c wt (gcp gro rows 0 (c * 5) 5) gro wx wy mk, 30, [(0, gr 2)], [])
    refine G.go hX 6 (bxW W H M P (c + 1) wt (gcp gro rows 0 (c * 5) 5) gro wx wy mk, 40, [(0, gr 2)], []) rfl trivial ?_
    exact g_vret hX hE rfl ⟨rfl, rfl⟩
set_option maxHeartbeats 4000000 in
set_option maxRecDepth 100000 in
theorem c_X1_absorbRound (l : Launch) (D : va_G) (cA : Nat → ClassId) (W : Nat) (H : Nat) (M : Nat) (P : Nat) (c : Int) (wt : Int) (rows : Int → Int) (gro : Int → Int) (wx : Int → Int) (wy : Int → Int) (mk : Int → Int) (F : Int → (Int → Int) → (Int → Int) → Prop) (hM : M ≤ 256) (hst : ∀ (c : Int) (rows gro : Int → Int) (i : Int), F c rows gro → 0 ≤ i → i < c → gsh gro rows i → F (c - 1) (gcp rows rows ((c - 1) * 5) (i * 5) 5) (gab gro rows i)) (hok : ∀ (c : Int) (rows gro : Int → Int), F c rows gro → 0 ≤ c ∧ c ≤ M ∧ (∀ j : Int, inR (rows j)) ∧ (∀ j : Int, inR (gro j))) (hF : F c rows gro) :
    gC l D cA yX1_absorbRound mX1_absorbRound (some .boolean) 0 0 [gr 2] (bxW W H M P c wt rows gro wx wy mk) (fun r9 w9 => ∃ (fd2 : Int) (c2 : Int) (rows2 : Int → Int) (gro2 : Int → Int), r9 = some (gi fd2) ∧ w9 = bxW W H M P c2 wt rows2 gro2 wx wy mk ∧ (fd2 = 0 ∨ fd2 = 1) ∧ (F c2 rows2 gro2) ∧ (fd2 = 0 → c2 = c ∧ rows2 = rows ∧ gro2 = gro ∧ ∀ k : Int, 0 ≤ k → k < c → ¬ gsh gro rows k) ∧ (fd2 = 1 → c2 < c)) := by
  have hcc := hok _ _ _ hF
  refine gC_of rfl kX1_absorbRound rfl rfl (Nat.le_of_ble_eq_true rfl) (fun X ad hX hE => ?_)
  refine G.go hX 7 (bxW W H M P c wt rows gro wx wy mk, 9, [(0, gr 2), (1, gi 0), (2, gi (c - 1))], []) rfl trivial ?_
  have lp9 : ∀ (n : Nat) (fd : Int) (i : Int) (c1 : Int) (rows1 : Int → Int) (gro1 : Int → Int), (F c1 rows1 gro1) → (fd = 0 ∨ fd = 1) → (-1 ≤ i ∧ i < c1) → (fd = 0 → c1 = c ∧ rows1 = rows ∧ gro1 = gro ∧ ∀ k : Int, i < k → k < c → ¬ gsh gro rows k) → (fd = 1 → c1 < c) → (i + 1).toNat < n → G X mX1_absorbRound ad 0 0 (bxW W H M P c1 wt rows1 gro1 wx wy mk, 9, [(0, gr 2), (1, gi fd), (2, gi i)], []) := by
    intro n
    induction n with
    | zero => intro fd i c1 rows1 gro1 hF1 hfd hi1 hz ho hm9; exact absurd hm9 (Nat.not_lt_zero _)
    | succ n ih9 =>
      intro fd i c1 rows1 gro1 hF1 hfd hi1 hz ho hm9
      have hk1 := hok _ _ _ hF1
      refine G.go hX 1 (bxW W H M P c1 wt rows1 gro1 wx wy mk, 10, [(0, gr 2), (1, gi fd), (2, gi i)], [gi i]) rfl trivial ?_
      refine g_if_lt hX 103 rfl rfl ⟨by omega, by omega⟩ (fun b10 => ?_) (fun b10 => ?_)
      ·
        refine G.go hX 1 (bxW W H M P c1 wt rows1 gro1 wx wy mk, 104, [(0, gr 2), (1, gi fd), (2, gi i)], [gi fd]) rfl trivial ?_
        exact g_zret hX hE rfl (by omega) ⟨fd, c1, rows1, gro1, rfl, rfl, hfd, hF1, fun h9 => ⟨(hz h9).1, (hz h9).2.1, (hz h9).2.2.1, fun k a b => (hz h9).2.2.2 k (by omega) b⟩, ho⟩
      ·
        refine G.go hX 2 (bxW W H M P c1 wt rows1 gro1 wx wy mk, 15, [(0, gr 2), (1, gi fd), (2, gi i)], [gi i, gr 2]) rfl trivial ?_
        refine G.callV (av := [gi i]) (o := 2) (st := []) hX rfl (fun l D cA => c_X1_sharesPlace l D cA W H M P c1 wt rows1 gro1 wx wy mk i (by first | assumption | omega) (by first | assumption | omega) hk1.2.2.1 hk1.2.2.2) (by decide +kernel) aX1_sharesPlace rfl rfl rfl ⟨rfl, rfl⟩ (by decide) (Nat.le_of_ble_eq_true rfl) [0, 1, 2, 3, 4, 5] [] [] rfl rfl rfl (fun r w' hp => ?_)
        obtain ⟨rfl, rfl⟩ := hp
        show G X mX1_absorbRound ad 0 0 (bxW W H M P c1 wt rows1 gro1 wx wy mk, 18, [(0, gr 2), (1, gi fd), (2, gi i)], [gi (gb (gsh gro1 rows1 i))])
        refine g_if_eq hX 97 rfl rfl (gb_r _) (fun b18 => ?_) (fun b18 => ?_)
        ·
          have b18 := gb_0.mp b18
          refine G.go hX 2 (bxW W H M P c1 wt rows1 gro1 wx wy mk, 9, [(0, gr 2), (1, gi fd), (2, gi (i + (-1)))], []) rfl trivial ?_
          exact ih9 fd (i + (-1)) c1 rows1 gro1 (by exact hF1) (by exact hfd) (by omega) (by exact fun h9 => ⟨(hz h9).1, (hz h9).2.1, (hz h9).2.2.1, fun k a b => by (by_cases e9 : k = i; (subst e9; rw [(hz h9).2.1, (hz h9).2.2.1] at b18; exact b18); exact (hz h9).2.2.2 k (by omega) b)⟩) (by exact ho) (by omega)
        ·
          have b18 := gb_n0 b18
          refine G.go hX 4 (bxW W H M P c1 wt rows1 gro1 wx wy mk, 25, [(0, gr 2), (1, gi fd), (2, gi i)], [gi 0, gi i, gr 2, gr 2]) rfl trivial ?_
          refine G.callV (av := [gi i, gi 0]) (o := 2) (st := [gr 2]) hX rfl (fun l D cA => c_X1_tell l D cA W H M P c1 wt rows1 gro1 wx wy mk i 0 (by first | assumption | omega) (by first | assumption | omega)) (by decide +kernel) aX1_tell rfl rfl rfl ⟨rfl, rfl⟩ (by decide) (Nat.le_of_ble_eq_true rfl) [0, 1, 2, 3, 4, 5] [] [] rfl rfl rfl (fun r w' hp => ?_)
          obtain ⟨rfl, rfl⟩ := hp
          show G X mX1_absorbRound ad 0 0 (bxW W H M P c1 wt rows1 gro1 wx wy mk, 28, [(0, gr 2), (1, gi fd), (2, gi i)], [gi (rows1 (i * 5 + 0)), gr 2])
          refine G.go hX 3 (bxW W H M P c1 wt rows1 gro1 wx wy mk, 31, [(0, gr 2), (1, gi fd), (2, gi i)], [gi 1, gi i, gr 2, gi (rows1 (i * 5 + 0)), gr 2]) rfl trivial ?_
          refine G.callV (av := [gi i, gi 1]) (o := 2) (st := [gi (rows1 (i * 5 + 0)), gr 2]) hX rfl (fun l D cA => c_X1_tell l D cA W H M P c1 wt rows1 gro1 wx wy mk i 1 (by first | assumption | omega) (by first | assumption | omega)) (by decide +kernel) aX1_tell rfl rfl rfl ⟨rfl, rfl⟩ (by decide) (Nat.le_of_ble_eq_true rfl) [0, 1, 2, 3, 4, 5] [] [] rfl rfl rfl (fun r w' hp => ?_)
          obtain ⟨rfl, rfl⟩ := hp
          show G X mX1_absorbRound ad 0 0 (bxW W H M P c1 wt rows1 gro1 wx wy mk, 34, [(0, gr 2), (1, gi fd), (2, gi i)], [gi (rows1 (i * 5 + 1)), gi (rows1 (i * 5 + 0)), gr 2])
          refine G.go hX 3 (bxW W H M P c1 wt rows1 gro1 wx wy mk, 37, [(0, gr 2), (1, gi fd), (2, gi i)], [gi 2, gi i, gr 2, gi (rows1 (i * 5 + 1)), gi (rows1 (i * 5 + 0)), gr 2]) rfl trivial ?_
          refine G.callV (av := [gi i, gi 2]) (o := 2) (st := [gi (rows1 (i * 5 + 1)), gi (rows1 (i * 5 + 0)), gr 2]) hX rfl (fun l D cA => c_X1_tell l D cA W H M P c1 wt rows1 gro1 wx wy mk i 2 (by first | assumption | omega) (by first | assumption | omega)) (by decide +kernel) aX1_tell rfl rfl rfl ⟨rfl, rfl⟩ (by decide) (Nat.le_of_ble_eq_true rfl) [0, 1, 2, 3, 4, 5] [] [] rfl rfl rfl (fun r w' hp => ?_)
          obtain ⟨rfl, rfl⟩ := hp
          show G X mX1_absorbRound ad 0 0 (bxW W H M P c1 wt rows1 gro1 wx wy mk, 40, [(0, gr 2), (1, gi fd), (2, gi i)], [gi (rows1 (i * 5 + 2)), gi (rows1 (i * 5 + 1)), gi (rows1 (i * 5 + 0)), gr 2])
          refine G.go hX 3 (bxW W H M P c1 wt rows1 gro1 wx wy mk, 43, [(0, gr 2), (1, gi fd), (2, gi i)], [gi 3, gi i, gr 2, gi (rows1 (i * 5 + 2)), gi (rows1 (i * 5 + 1)), gi (rows1 (i * 5 + 0)), gr 2]) rfl trivial ?_
          refine G.callV (av := [gi i, gi 3]) (o := 2) (st := [gi (rows1 (i * 5 + 2)), gi (rows1 (i * 5 + 1)), gi (rows1 (i * 5 + 0)), gr 2]) hX rfl (fun l D cA => c_X1_tell l D cA W H M P c1 wt rows1 gro1 wx wy mk i 3 (by first | assumption | omega) (by first | assumption | omega)) (by decide +kernel) aX1_tell rfl rfl rfl ⟨rfl, rfl⟩ (by decide) (Nat.le_of_ble_eq_true rfl) [0, 1, 2, 3, 4, 5] [] [] rfl rfl rfl (fun r w' hp => ?_)
          obtain ⟨rfl, rfl⟩ := hp
          show G X mX1_absorbRound ad 0 0 (bxW W H M P c1 wt rows1 gro1 wx wy mk, 46, [(0, gr 2), (1, gi fd), (2, gi i)], [gi (rows1 (i * 5 + 3)), gi (rows1 (i * 5 + 2)), gi (rows1 (i * 5 + 1)), gi (rows1 (i * 5 + 0)), gr 2])
          refine G.callV (av := [gi (rows1 (i * 5 + 0)), gi (rows1 (i * 5 + 1)), gi (rows1 (i * 5 + 2)), gi (rows1 (i * 5 + 3))]) (o := 2) (st := []) hX rfl (fun l D cA => c_X1_widen l D cA W H M P c1 wt rows1 gro1 wx wy mk (rows1 (i * 5 + 0)) (rows1 (i * 5 + 1)) (rows1 (i * 5 + 2)) (rows1 (i * 5 + 3)) hk1.2.2.2 (hk1.2.2.1 _) (hk1.2.2.1 _) (hk1.2.2.1 _) (hk1.2.2.1 _)) (by decide +kernel) aX1_widen rfl rfl rfl ⟨rfl, rfl⟩ (by decide) (Nat.le_of_ble_eq_true rfl) [0, 1, 2, 3, 4, 5] [] [] rfl rfl rfl (fun r w' hp => ?_)
          obtain ⟨rfl, rfl⟩ := hp
          show G X mX1_absorbRound ad 0 0 (bxW W H M P c1 wt rows1 (gwd gro1 (rows1 (i * 5 + 0)) (rows1 (i * 5 + 1)) (rows1 (i * 5 + 2)) (rows1 (i * 5 + 3))) wx wy mk, 49, [(0, gr 2), (1, gi fd), (2, gi i)], [])
          refine G.go hX 8 (bxW W H M P c1 wt rows1 (gwd gro1 (rows1 (i * 5 + 0)) (rows1 (i * 5 + 1)) (rows1 (i * 5 + 2)) (rows1 (i * 5 + 3))) wx wy mk, 59, [(0, gr 2), (1, gi fd), (2, gi i)], [gi 4, gi i, gr 2, gi ((gwd gro1 (rows1 (i * 5 + 0)) (rows1 (i * 5 + 1)) (rows1 (i * 5 + 2)) (rows1 (i * 5 + 3))) 4), gi 4, gr 8]) rfl ?_ ?_
          · refine ⟨?_, trivial⟩
            · omega
          refine G.callV (av := [gi i, gi 4]) (o := 2) (st := [gi ((gwd gro1 (rows1 (i * 5 + 0)) (rows1 (i * 5 + 1)) (rows1 (i * 5 + 2)) (rows1 (i * 5 + 3))) 4), gi 4, gr 8]) hX rfl (fun l D cA => c_X1_tell l D cA W H M P c1 wt rows1 (gwd gro1 (rows1 (i * 5 + 0)) (rows1 (i * 5 + 1)) (rows1 (i * 5 + 2)) (rows1 (i * 5 + 3))) wx wy mk i 4 (by first | assumption | omega) (by first | assumption | omega)) (by decide +kernel) aX1_tell rfl rfl rfl ⟨rfl, rfl⟩ (by decide) (Nat.le_of_ble_eq_true rfl) [0, 1, 2, 3, 4, 5] [] [] rfl rfl rfl (fun r w' hp => ?_)
          obtain ⟨rfl, rfl⟩ := hp
          show G X mX1_absorbRound ad 0 0 (bxW W H M P c1 wt rows1 (gwd gro1 (rows1 (i * 5 + 0)) (rows1 (i * 5 + 1)) (rows1 (i * 5 + 2)) (rows1 (i * 5 + 3))) wx wy mk, 62, [(0, gr 2), (1, gi fd), (2, gi i)], [gi (rows1 (i * 5 + 4)), gi ((gwd gro1 (rows1 (i * 5 + 0)) (rows1 (i * 5 + 1)) (rows1 (i * 5 + 2)) (rows1 (i * 5 + 3))) 4), gi 4, gr 8])
          refine G.go hX 20 (bxW W H M P (c1 - 1) wt rows1 (gu (gwd gro1 (rows1 (i * 5 + 0)) (rows1 (i * 5 + 1)) (rows1 (i * 5 + 2)) (rows1 (i * 5 + 3))) 4 (((gwd gro1 (rows1 (i * 5 + 0)) (rows1 (i * 5 + 1)) (rows1 (i * 5 + 2)) (rows1 (i * 5 + 3))) 4) + (rows1 (i * 5 + 4)))) wx wy mk, 92, [(0, gr 2), (1, gi fd), (2, gi i)], [gi 5, gi (i * 5), gr 7, gi ((c1 - 1) * 5), gr 7]) rfl ?_ ?_
          · refine ⟨?_, trivial⟩
            · omega
          refine g_copy hX rfl (by decide +kernel) ⟨by decide, Nat.le_of_ble_eq_true rfl⟩ rfl rfl (by omega) ?_
          show G X mX1_absorbRound ad 0 0 (bxW W H M P (c1 - 1) wt (gcp rows1 rows1 ((c1 - 1) * 5) (i * 5) 5) (gu (gwd gro1 (rows1 (i * 5 + 0)) (rows1 (i * 5 + 1)) (rows1 (i * 5 + 2)) (rows1 (i * 5 + 3))) 4 (((gwd gro1 (rows1 (i * 5 + 0)) (rows1 (i * 5 + 1)) (rows1 (i * 5 + 2)) (rows1 (i * 5 + 3))) 4) + (rows1 (i * 5 + 4)))) wx wy mk, 95, [(0, gr 2), (1, gi fd), (2, gi i)], [])
          refine G.go hX 4 (bxW W H M P (c1 - 1) wt (gcp rows1 rows1 ((c1 - 1) * 5) (i * 5) 5) (gu (gwd gro1 (rows1 (i * 5 + 0)) (rows1 (i * 5 + 1)) (rows1 (i * 5 + 2)) (rows1 (i * 5 + 3))) 4 (((gwd gro1 (rows1 (i * 5 + 0)) (rows1 (i * 5 + 1)) (rows1 (i * 5 + 2)) (rows1 (i * 5 + 3))) 4) + (rows1 (i * 5 + 4)))) wx wy mk, 9, [(0, gr 2), (1, gi 1), (2, gi (i + (-1)))], []) rfl trivial ?_
          exact ih9 1 (i + (-1)) (c1 - 1) (gcp rows1 rows1 ((c1 - 1) * 5) (i * 5) 5) (gu (gwd gro1 (rows1 (i * 5 + 0)) (rows1 (i * 5 + 1)) (rows1 (i * 5 + 2)) (rows1 (i * 5 + 3))) 4 (((gwd gro1 (rows1 (i * 5 + 0)) (rows1 (i * 5 + 1)) (rows1 (i * 5 + 2)) (rows1 (i * 5 + 3))) 4) + (rows1 (i * 5 + 4)))) (by exact hst _ _ _ _ hF1 (by omega) (by omega) (by assumption)) (by exact Or.inr rfl) (by omega) (by intro h9; omega) (by intro _; rcases hfd with h9 | h9; (have := (hz h9).1; omega); (have := ho h9; omega)) (by omega)
  exact lp9 _ 0 (c - 1) c rows gro (by exact hF) (by exact Or.inl rfl) (by omega) (by exact fun _ => ⟨rfl, rfl, rfl, fun k a b => by omega⟩) (by intro h9; omega) (Nat.lt_succ_self _)
set_option maxHeartbeats 4000000 in
set_option maxRecDepth 100000 in
theorem c_X1_absorbAll (l : Launch) (D : va_G) (cA : Nat → ClassId) (W : Nat) (H : Nat) (M : Nat) (P : Nat) (c : Int) (wt : Int) (rows : Int → Int) (gro : Int → Int) (wx : Int → Int) (wy : Int → Int) (mk : Int → Int) (F : Int → (Int → Int) → (Int → Int) → Prop) (hM : M ≤ 256) (hst : ∀ (c : Int) (rows gro : Int → Int) (i : Int), F c rows gro → 0 ≤ i → i < c → gsh gro rows i → F (c - 1) (gcp rows rows ((c - 1) * 5) (i * 5) 5) (gab gro rows i)) (hok : ∀ (c : Int) (rows gro : Int → Int), F c rows gro → 0 ≤ c ∧ c ≤ M ∧ (∀ j : Int, inR (rows j)) ∧ (∀ j : Int, inR (gro j))) (hF : F c rows gro) :
    gC l D cA yX1_absorbAll mX1_absorbAll none 0 0 [gr 2] (bxW W H M P c wt rows gro wx wy mk) (fun r9 w9 => ∃ (c2 : Int) (rows2 : Int → Int) (gro2 : Int → Int), r9 = none ∧ w9 = bxW W H M P c2 wt rows2 gro2 wx wy mk ∧ (F c2 rows2 gro2) ∧ (∀ k : Int, 0 ≤ k → k < c2 → ¬ gsh gro2 rows2 k)) := by
  have hcc := hok _ _ _ hF
  refine gC_of rfl kX1_absorbAll rfl rfl (Nat.le_of_ble_eq_true rfl) (fun X ad hX hE => ?_)
  refine G.go hX 4 (bxW W H M P c wt rows gro wx wy mk, 4, [(0, gr 2), (1, gi 1), (2, gi 0)], []) rfl trivial ?_
  have lp4 : ∀ (n : Nat) (ag : Int) (rd : Int) (c1 : Int) (rows1 : Int → Int) (gro1 : Int → Int), (F c1 rows1 gro1) → (ag = 0 ∨ ag = 1) → (0 ≤ rd ∧ rd ≤ M + 1) → (ag = 0 → ∀ k : Int, 0 ≤ k → k < c1 → ¬ gsh gro1 rows1 k) → (ag = 1 → c1 + rd ≤ M) → (M + 2 - rd).toNat < n → G X mX1_absorbAll ad 0 0 (bxW W H M P c1 wt rows1 gro1 wx wy mk, 4, [(0, gr 2), (1, gi ag), (2, gi rd)], []) := by
    intro n
    induction n with
    | zero => intro ag rd c1 rows1 gro1 hF1 hag hrd hz ho hm9; exact absurd hm9 (Nat.not_lt_zero _)
    | succ n ih4 =>
      intro ag rd c1 rows1 gro1 hF1 hag hrd hz ho hm4
      have hk1 := hok _ _ _ hF1
      refine G.go hX 1 (bxW W H M P c1 wt rows1 gro1 wx wy mk, 5, [(0, gr 2), (1, gi ag), (2, gi rd)], [gi ag]) rfl trivial ?_
      refine g_if_eq hX 27 rfl rfl ⟨by omega, by omega⟩ (fun b5 => ?_) (fun b5 => ?_)
      ·
        exact g_vret hX hE rfl ⟨c1, rows1, gro1, rfl, rfl, hF1, by (rcases hag with h9 | h9; exact hz h9; (have := ho h9; exfalso; omega))⟩
      ·
        refine G.go hX 3 (bxW W H M P c1 wt rows1 gro1 wx wy mk, 13, [(0, gr 2), (1, gi ag), (2, gi rd)], [gi M, gi rd]) rfl trivial ?_
        refine g_icmp_gt hX 27 rfl rfl ⟨by omega, by omega⟩ ⟨by omega, by omega⟩ (fun b13 => ?_) (fun b13 => ?_)
        ·
          exact g_vret hX hE rfl ⟨c1, rows1, gro1, rfl, rfl, hF1, by (rcases hag with h9 | h9; exact hz h9; (have := ho h9; exfalso; omega))⟩
        ·
          refine G.go hX 1 (bxW W H M P c1 wt rows1 gro1 wx wy mk, 17, [(0, gr 2), (1, gi ag), (2, gi rd)], [gr 2]) rfl trivial ?_
          refine G.callV (av := []) (o := 2) (st := []) hX rfl (fun l D cA => c_X1_absorbRound l D cA W H M P c1 wt rows1 gro1 wx wy mk F (by first | assumption | omega) (by first | assumption | omega) (by first | assumption | omega) (by first | assumption | omega)) (by decide +kernel) aX1_absorbRound rfl rfl rfl ⟨rfl, rfl⟩ (by decide) (Nat.le_of_ble_eq_true rfl) [0, 1, 2, 3, 4, 5] [] [] rfl rfl rfl (fun r w' hp => ?_)
          obtain ⟨fd3, c3, rows3, gro3, rfl, rfl, hp1, hp2, hp3, hp4⟩ := hp
          show G X mX1_absorbAll ad 0 0 (bxW W H M P c3 wt rows3 gro3 wx wy mk, 20, [(0, gr 2), (1, gi ag), (2, gi rd)], [gi fd3])
          refine G.go hX 3 (bxW W H M P c3 wt rows3 gro3 wx wy mk, 4, [(0, gr 2), (1, gi fd3), (2, gi (rd + 1))], []) rfl trivial ?_
          exact ih4 fd3 (rd + 1) c3 rows3 gro3 (by exact hp2) (by exact hp1) (by omega) (by exact fun h9 => by (obtain ⟨e1, e2, e3, e4⟩ := hp3 h9; subst e1 e2 e3; exact e4)) (by intro h9; have := hp4 h9; have := ho (by omega); omega) (by omega)
  exact lp4 _ 1 0 c rows gro (by exact hF) (by exact Or.inr rfl) (by omega) (by intro h9; omega) (by intro _; omega) (Nat.lt_succ_self _)
set_option maxHeartbeats 4000000 in
set_option maxRecDepth 100000 in
theorem c_X1_sort (l : Launch) (D : va_G) (cA : Nat → ClassId) (W : Nat) (H : Nat) (M : Nat) (P : Nat) (c : Int) (wt : Int) (rows : Int → Int) (gro : Int → Int) (wx : Int → Int) (wy : Int → Int) (mk : Int → Int) (F : (Int → Int) → Prop) (hM : M ≤ 256) (hc : 0 ≤ c ∧ c ≤ M) (hst : ∀ (rows : Int → Int) (i j : Int), F rows → 0 ≤ i → i < c → 0 ≤ j → j < c → i ≠ j → F (gswn rows i j 5)) (hok : ∀ rows : Int → Int, F rows → ∀ j : Int, inR (rows j)) (hF : F rows) :
    gC l D cA yX1_sort mX1_sort none 0 0 [gr 2] (bxW W H M P c wt rows gro wx wy mk) (fun r9 w9 => ∃ (rows2 : Int → Int), r9 = none ∧ w9 = bxW W H M P c wt rows2 gro wx wy mk ∧ (F rows2) ∧ (gSI rows2 (c - 1) (-1))) := by
  refine gC_of rfl kX1_sort rfl rfl (Nat.le_of_ble_eq_true rfl) (fun X ad hX hE => ?_)
  refine G.go hX 2 (bxW W H M P c wt rows gro wx wy mk, 2, [(0, gr 2), (1, gi 1)], []) rfl trivial ?_
  have lp2 : ∀ (n : Nat) (i : Int) (rows1 : Int → Int), (F rows1) → (1 ≤ i ∧ (i ≤ c ∨ i = 1)) → (gSI rows1 (i - 1) (-1)) → (c + 1 - i).toNat < n → G X mX1_sort ad 0 0 (bxW W H M P c wt rows1 gro wx wy mk, 2, [(0, gr 2), (1, gi i)], []) := by
    intro n
    induction n with
    | zero => intro i rows1 hF1 hi1 hs1 hm9; exact absurd hm9 (Nat.not_lt_zero _)
    | succ n ih2 =>
      intro i rows1 hF1 hi1 hs1 hm2
      refine G.go hX 3 (bxW W H M P c wt rows1 gro wx wy mk, 7, [(0, gr 2), (1, gi i)], [gi c, gi i]) rfl trivial ?_
      refine g_icmp_ge hX 47 rfl rfl ⟨by omega, by omega⟩ ⟨by omega, by omega⟩ (fun b7 => ?_) (fun b7 => ?_)
      ·
        exact g_vret hX hE rfl ⟨rows1, rfl, rfl, hF1, fun a b h0 h1 h2 h3 => hs1 a b h0 h1 (by omega) h3⟩
      ·
        refine G.go hX 2 (bxW W H M P c wt rows1 gro wx wy mk, 12, [(0, gr 2), (1, gi i), (2, gi i)], []) rfl trivial ?_
        have lp12 : ∀ (n : Nat) (j : Int) (rows3 : Int → Int), (F rows3) → (0 ≤ j ∧ j ≤ i) → (gSI rows3 i j) → j.toNat < n → G X mX1_sort ad 0 0 (bxW W H M P c wt rows3 gro wx wy mk, 12, [(0, gr 2), (1, gi i), (2, gi j)], []) := by
          intro n
          induction n with
          | zero => intro j rows3 hF3 hj hs3 hm9; exact absurd hm9 (Nat.not_lt_zero _)
          | succ n ih12 =>
            intro j rows3 hF3 hj hs3 hm12
            refine G.go hX 1 (bxW W H M P c wt rows3 gro wx wy mk, 13, [(0, gr 2), (1, gi i), (2, gi j)], [gi j]) rfl trivial ?_
            refine g_if_le hX 41 rfl rfl ⟨by omega, by omega⟩ (fun b13 => ?_) (fun b13 => ?_)
            ·
              refine G.go hX 2 (bxW W H M P c wt rows3 gro wx wy mk, 2, [(0, gr 2), (1, gi (i + 1)), (2, gi j)], []) rfl trivial ?_
              refine G.locs [(0, gr 2), (1, gi (i + 1))] [0, 1] rfl ?_
              exact ih2 (i + 1) rows3 (by exact hF3) (by omega) (by rw [show i + 1 - 1 = i by omega]; exact gSI_end hs3 (by first | exact Or.inl (by omega) | exact Or.inr (by assumption))) (by omega)
            ·
              refine G.go hX 5 (bxW W H M P c wt rows3 gro wx wy mk, 21, [(0, gr 2), (1, gi i), (2, gi j)], [gi (j - 1), gi j, gr 2]) rfl trivial ?_
              refine G.callV (av := [gi j, gi (j - 1)]) (o := 2) (st := []) hX rfl (fun l D cA => c_X1_comesBefore l D cA W H M P c wt rows3 gro wx wy mk j (j - 1) (by first | assumption | omega) (by first | assumption | omega) (by first | assumption | omega) (hok _ hF3)) (by decide +kernel) aX1_comesBefore rfl rfl rfl ⟨rfl, rfl⟩ (by decide) (Nat.le_of_ble_eq_true rfl) [0, 1, 2, 3, 4, 5] [] [] rfl rfl rfl (fun r w' hp => ?_)
              obtain ⟨rfl, rfl⟩ := hp
              show G X mX1_sort ad 0 0 (bxW W H M P c wt rows3 gro wx wy mk, 24, [(0, gr 2), (1, gi i), (2, gi j)], [gi (gb (gbf rows3 j (j - 1)))])
              refine g_if_eq hX 41 rfl rfl (gb_r _) (fun b24 => ?_) (fun b24 => ?_)
              ·
                have b24 := gb_0.mp b24
                refine G.go hX 2 (bxW W H M P c wt rows3 gro wx wy mk, 2, [(0, gr 2), (1, gi (i + 1)), (2, gi j)], []) rfl trivial ?_
                refine G.locs [(0, gr 2), (1, gi (i + 1))] [0, 1] rfl ?_
                exact ih2 (i + 1) rows3 (by exact hF3) (by omega) (by rw [show i + 1 - 1 = i by omega]; exact gSI_end hs3 (by first | exact Or.inl (by omega) | exact Or.inr (by assumption))) (by omega)
              ·
                have b24 := gb_n0 b24
                refine G.go hX 5 (bxW W H M P c wt rows3 gro wx wy mk, 32, [(0, gr 2), (1, gi i), (2, gi j)], [gi (j - 1), gi j, gr 2]) rfl trivial ?_
                refine G.callV (av := [gi j, gi (j - 1)]) (o := 2) (st := []) hX rfl (fun l D cA => c_X1_swap l D cA W H M P c wt rows3 gro wx wy mk j (j - 1) (by first | assumption | omega) (by first | assumption | omega) (by first | assumption | omega) (by first | assumption | omega)) (by decide +kernel) aX1_swap rfl rfl rfl ⟨rfl, rfl⟩ (by decide) (Nat.le_of_ble_eq_true rfl) [0, 1, 2, 3, 4, 5] [] [] rfl rfl rfl (fun r w' hp => ?_)
                obtain ⟨rfl, rfl⟩ := hp
                show G X mX1_sort ad 0 0 (bxW W H M P c wt (gswn rows3 j (j - 1) 5) gro wx wy mk, 35, [(0, gr 2), (1, gi i), (2, gi j)], [])
                refine G.go hX 2 (bxW W H M P c wt (gswn rows3 j (j - 1) 5) gro wx wy mk, 12, [(0, gr 2), (1, gi i), (2, gi (j + (-1)))], []) rfl trivial ?_
                exact ih12 (j + (-1)) (gswn rows3 j (j - 1) 5) (by exact hst _ _ _ hF3 (by omega) (by omega) (by omega) (by omega) (by omega)) (by omega) (by exact gSI_swap hs3 (by omega) (by omega) (by assumption)) (by omega)
        exact lp12 _ i rows1 (by exact hF1) (by omega) (by have := gSI_next hs1; rw [show i - 1 + 1 = i by omega] at this; exact this) (Nat.lt_succ_self _)
  exact lp2 _ 1 rows (by exact hF) (by omega) (by intro a b h0 h1 h2 h3; omega) (Nat.lt_succ_self _)
set_option maxHeartbeats 4000000 in
set_option maxRecDepth 100000 in
theorem c_X1_mostPlaces (l : Launch) (D : va_G) (cA : Nat → ClassId) (W : Nat) (H : Nat) (M : Nat) (P : Nat) (c : Int) (wt : Int) (rows : Int → Int) (gro : Int → Int) (wx : Int → Int) (wy : Int → Int) (mk : Int → Int) (hM : M ≤ 256) (hc : 0 ≤ c ∧ c ≤ M) (hb : ∀ i : Int, 0 ≤ i → i < c → 0 ≤ rows (i * 5 + 0) ∧ rows (i * 5 + 0) ≤ rows (i * 5 + 2) ∧ rows (i * 5 + 2) ≤ 31 ∧ 0 ≤ rows (i * 5 + 1) ∧ rows (i * 5 + 1) ≤ rows (i * 5 + 3) ∧ rows (i * 5 + 3) ≤ 31) :
    gC l D cA yX1_mostPlaces mX1_mostPlaces (some .int) 0 0 [gr 2] (bxW W H M P c wt rows gro wx wy mk) (fun r9 w9 => r9 = some (gi (gmx (fun i => (rows (i * 5 + 2) - rows (i * 5 + 0) + 1) * (rows (i * 5 + 3) - rows (i * 5 + 1) + 1)) c.toNat)) ∧ w9 = bxW W H M P c wt rows gro wx wy mk) := by
  refine gC_of rfl kX1_mostPlaces rfl rfl (Nat.le_of_ble_eq_true rfl) (fun X ad hX hE => ?_)
  refine G.go hX 4 (bxW W H M P c wt rows gro wx wy mk, 4, [(0, gr 2), (1, gi 0), (2, gi 0)], []) rfl trivial ?_
  have lp4 : ∀ (n : Nat) (lg : Int) (i : Int), (0 ≤ i ∧ i ≤ c) → (lg = gmx (fun i => (rows (i * 5 + 2) - rows (i * 5 + 0) + 1) * (rows (i * 5 + 3) - rows (i * 5 + 1) + 1)) i.toNat) → (0 ≤ lg ∧ lg ≤ 1024) → (c - i).toNat < n → G X mX1_mostPlaces ad 0 0 (bxW W H M P c wt rows gro wx wy mk, 4, [(0, gr 2), (1, gi lg), (2, gi i)], []) := by
    intro n
    induction n with
    | zero => intro lg i hi1 hlg hlb hm9; exact absurd hm9 (Nat.not_lt_zero _)
    | succ n ih4 =>
      intro lg i hi1 hlg hlb hm4
      refine G.go hX 3 (bxW W H M P c wt rows gro wx wy mk, 9, [(0, gr 2), (1, gi lg), (2, gi i)], [gi c, gi i]) rfl trivial ?_
      refine g_icmp_ge hX 60 rfl rfl ⟨by omega, by omega⟩ ⟨by omega, by omega⟩ (fun b9 => ?_) (fun b9 => ?_)
      ·
        refine G.go hX 1 (bxW W H M P c wt rows gro wx wy mk, 61, [(0, gr 2), (1, gi lg), (2, gi i)], [gi lg]) rfl trivial ?_
        exact g_iret hX hE rfl ⟨(congrArg (fun z => some (gi z)) (by first | rfl | (rw [hlg, show i = c by omega]))), rfl⟩
      ·
        have hbi := hb i (by omega) (by omega)
        have hmu := gmul_le (a := rows (i * 5 + 2) - rows (i * 5 + 0) + 1) (b := rows (i * 5 + 3) - rows (i * 5 + 1) + 1) (c := 32) (d := 32) (by omega) (by omega) (by omega) (by omega)
        refine G.go hX 3 (bxW W H M P c wt rows gro wx wy mk, 15, [(0, gr 2), (1, gi lg), (2, gi i)], [gi 2, gi i, gr 2]) rfl trivial ?_
        refine G.callV (av := [gi i, gi 2]) (o := 2) (st := []) hX rfl (fun l D cA => c_X1_tell l D cA W H M P c wt rows gro wx wy mk i 2 (by first | assumption | omega) (by first | assumption | omega)) (by decide +kernel) aX1_tell rfl rfl rfl ⟨rfl, rfl⟩ (by decide) (Nat.le_of_ble_eq_true rfl) [0, 1, 2, 3, 4, 5] [] [] rfl rfl rfl (fun r w' hp => ?_)
        obtain ⟨rfl, rfl⟩ := hp
        show G X mX1_mostPlaces ad 0 0 (bxW W H M P c wt rows gro wx wy mk, 18, [(0, gr 2), (1, gi lg), (2, gi i)], [gi (rows (i * 5 + 2))])
        refine G.go hX 3 (bxW W H M P c wt rows gro wx wy mk, 21, [(0, gr 2), (1, gi lg), (2, gi i)], [gi 0, gi i, gr 2, gi (rows (i * 5 + 2))]) rfl trivial ?_
        refine G.callV (av := [gi i, gi 0]) (o := 2) (st := [gi (rows (i * 5 + 2))]) hX rfl (fun l D cA => c_X1_tell l D cA W H M P c wt rows gro wx wy mk i 0 (by first | assumption | omega) (by first | assumption | omega)) (by decide +kernel) aX1_tell rfl rfl rfl ⟨rfl, rfl⟩ (by decide) (Nat.le_of_ble_eq_true rfl) [0, 1, 2, 3, 4, 5] [] [] rfl rfl rfl (fun r w' hp => ?_)
        obtain ⟨rfl, rfl⟩ := hp
        show G X mX1_mostPlaces ad 0 0 (bxW W H M P c wt rows gro wx wy mk, 24, [(0, gr 2), (1, gi lg), (2, gi i)], [gi (rows (i * 5 + 0)), gi (rows (i * 5 + 2))])
        refine G.go hX 7 (bxW W H M P c wt rows gro wx wy mk, 31, [(0, gr 2), (1, gi lg), (2, gi i), (3, gi (((rows (i * 5 + 2)) - (rows (i * 5 + 0))) + 1))], [gi 3, gi i, gr 2]) rfl trivial ?_
        refine G.callV (av := [gi i, gi 3]) (o := 2) (st := []) hX rfl (fun l D cA => c_X1_tell l D cA W H M P c wt rows gro wx wy mk i 3 (by first | assumption | omega) (by first | assumption | omega)) (by decide +kernel) aX1_tell rfl rfl rfl ⟨rfl, rfl⟩ (by decide) (Nat.le_of_ble_eq_true rfl) [0, 1, 2, 3, 4, 5] [] [] rfl rfl rfl (fun r w' hp => ?_)
        obtain ⟨rfl, rfl⟩ := hp
        show G X mX1_mostPlaces ad 0 0 (bxW W H M P c wt rows gro wx wy mk, 34, [(0, gr 2), (1, gi lg), (2, gi i), (3, gi (((rows (i * 5 + 2)) - (rows (i * 5 + 0))) + 1))], [gi (rows (i * 5 + 3))])
        refine G.go hX 3 (bxW W H M P c wt rows gro wx wy mk, 37, [(0, gr 2), (1, gi lg), (2, gi i), (3, gi (((rows (i * 5 + 2)) - (rows (i * 5 + 0))) + 1))], [gi 1, gi i, gr 2, gi (rows (i * 5 + 3))]) rfl trivial ?_
        refine G.callV (av := [gi i, gi 1]) (o := 2) (st := [gi (rows (i * 5 + 3))]) hX rfl (fun l D cA => c_X1_tell l D cA W H M P c wt rows gro wx wy mk i 1 (by first | assumption | omega) (by first | assumption | omega)) (by decide +kernel) aX1_tell rfl rfl rfl ⟨rfl, rfl⟩ (by decide) (Nat.le_of_ble_eq_true rfl) [0, 1, 2, 3, 4, 5] [] [] rfl rfl rfl (fun r w' hp => ?_)
        obtain ⟨rfl, rfl⟩ := hp
        show G X mX1_mostPlaces ad 0 0 (bxW W H M P c wt rows gro wx wy mk, 40, [(0, gr 2), (1, gi lg), (2, gi i), (3, gi (((rows (i * 5 + 2)) - (rows (i * 5 + 0))) + 1))], [gi (rows (i * 5 + 1)), gi (rows (i * 5 + 3))])
        refine G.go hX 8 (bxW W H M P c wt rows gro wx wy mk, 50, [(0, gr 2), (1, gi lg), (2, gi i), (3, gi (((rows (i * 5 + 2)) - (rows (i * 5 + 0))) + 1)), (4, gi (((rows (i * 5 + 3)) - (rows (i * 5 + 1))) + 1))], [gi ((((rows (i * 5 + 2)) - (rows (i * 5 + 0))) + 1) * (((rows (i * 5 + 3)) - (rows (i * 5 + 1))) + 1)), gi lg]) rfl trivial ?_
        refine g_mmax hX rfl (by decide +kernel) ⟨⟨by decide, Nat.le_of_ble_eq_true rfl⟩, by decide, by decide⟩ ⟨by omega, by omega⟩ ⟨by omega, by omega⟩ ?_
        show G X mX1_mostPlaces ad 0 0 (bxW W H M P c wt rows gro wx wy mk, 53, [(0, gr 2), (1, gi lg), (2, gi i), (3, gi (((rows (i * 5 + 2)) - (rows (i * 5 + 0))) + 1)), (4, gi (((rows (i * 5 + 3)) - (rows (i * 5 + 1))) + 1))], [gi (max lg ((((rows (i * 5 + 2)) - (rows (i * 5 + 0))) + 1) * (((rows (i * 5 + 3)) - (rows (i * 5 + 1))) + 1)))])
        refine G.go hX 3 (bxW W H M P c wt rows gro wx wy mk, 4, [(0, gr 2), (1, gi (max lg ((((rows (i * 5 + 2)) - (rows (i * 5 + 0))) + 1) * (((rows (i * 5 + 3)) - (rows (i * 5 + 1))) + 1)))), (2, gi (i + 1)), (3, gi (((rows (i * 5 + 2)) - (rows (i * 5 + 0))) + 1)), (4, gi (((rows (i * 5 + 3)) - (rows (i * 5 + 1))) + 1))], []) rfl trivial ?_
        refine G.locs [(0, gr 2), (1, gi (max lg ((((rows (i * 5 + 2)) - (rows (i * 5 + 0))) + 1) * (((rows (i * 5 + 3)) - (rows (i * 5 + 1))) + 1)))), (2, gi (i + 1))] [0, 1, 2] rfl ?_
        exact ih4 (max lg ((((rows (i * 5 + 2)) - (rows (i * 5 + 0))) + 1) * (((rows (i * 5 + 3)) - (rows (i * 5 + 1))) + 1))) (i + 1) (by omega) (by rw [hlg, show (i + 1).toNat = i.toNat + 1 by omega]; show _ = max _ _; rw [show ((i.toNat : Nat) : Int) = i by omega]) (by omega) (by omega)
  exact lp4 _ 0 0 (by omega) (by rfl) (by omega) (Nat.lt_succ_self _)
