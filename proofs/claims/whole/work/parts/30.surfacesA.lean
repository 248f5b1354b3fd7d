abbrev suW (W H M P : Nat) (c wt : Int) (rows gro wx wy mk : Int → Int) (dp fa ne sl : Int) (p0 p1 : Int → Int) : gW := [(1, gob 5 [gr 2, gi dp, gi W, gi H, gr 3, gr 6, gi fa, gi ne, gi sl]), (3, gar 2 2 ptq), (4, gai 0 P p0), (5, gai 0 P p1), (2, gob 2 [gi c, gi W, gi H, gi M, gr 7, gr 8, gr 9, gr 10, gi wt]), (7, gai 0 (M * 5) rows), (8, gai 0 5 gro), (9, gai 0 P wx), (10, gai 0 P wy), (6, gai 1 P mk)]
set_option maxHeartbeats 4000000 in
set_option maxRecDepth 100000 in
theorem c_X4_isClose (l : Launch) (D : va_G) (cA : Nat → ClassId) (W : Nat) (H : Nat) (M : Nat) (P : Nat) (c : Int) (wt : Int) (rows : Int → Int) (gro : Int → Int) (wx : Int → Int) (wy : Int → Int) (mk : Int → Int) (dp : Int) (fa : Int) (ne : Int) (sl : Int) (p0 : Int → Int) (p1 : Int → Int) (v : Int) (o : Int) (hfa : 0 ≤ fa ∧ fa ≤ 255) (hv : 0 ≤ v ∧ v ≤ 255) (ho : 0 ≤ o ∧ o ≤ 255) :
    gC l D cA yX4_isClose mX4_isClose (some .boolean) 0 0 [gr 1, gi v, gi o] (suW W H M P c wt rows gro wx wy mk dp fa ne sl p0 p1) (fun r9 w9 => r9 = some (gi (gb (gcl fa v o))) ∧ w9 = suW W H M P c wt rows gro wx wy mk dp fa ne sl p0 p1) := by
  refine gC_of rfl kX4_isClose rfl rfl (Nat.le_of_ble_eq_true rfl) (fun X ad hX hE => ?_)
  refine G.go hX 3 (suW W H M P c wt rows gro wx wy mk dp fa ne sl p0 p1, 3, [(0, gr 1), (1, gi v), (2, gi o)], [gi (v - o)]) rfl trivial ?_
  refine g_mabs hX rfl (by decide +kernel) ⟨⟨by decide, Nat.le_of_ble_eq_true rfl⟩, by decide, by decide⟩ ⟨by omega, by omega⟩ ?_
  show G X mX4_isClose ad 0 0 (suW W H M P c wt rows gro wx wy mk dp fa ne sl p0 p1, 6, [(0, gr 1), (1, gi v), (2, gi o)], [gi (max (v - o) (-(v - o)))])
  refine G.go hX 2 (suW W H M P c wt rows gro wx wy mk dp fa ne sl p0 p1, 10, [(0, gr 1), (1, gi v), (2, gi o)], [gi fa, gi (max (v - o) (-(v - o)))]) rfl trivial ?_
  refine g_icmp_gt hX 17 rfl rfl ⟨by omega, by omega⟩ ⟨by omega, by omega⟩ (fun b10 => ?_) (fun b10 => ?_)
  ·
    refine G.go hX 1 (suW W H M P c wt rows gro wx wy mk dp fa ne sl p0 p1, 18, [(0, gr 1), (1, gi v), (2, gi o)], [gi 0]) rfl trivial ?_
    exact g_zret hX hE rfl (Or.inl rfl) ⟨(congrArg (fun z => some (gi z)) (gb_f (by unfold gcl; omega)).symm), rfl⟩
  ·
    refine G.go hX 2 (suW W H M P c wt rows gro wx wy mk dp fa ne sl p0 p1, 18, [(0, gr 1), (1, gi v), (2, gi o)], [gi 1]) rfl trivial ?_
    exact g_zret hX hE rfl (Or.inr rfl) ⟨(congrArg (fun z => some (gi z)) (gb_t (by unfold gcl; omega)).symm), rfl⟩
set_option maxHeartbeats 4000000 in
set_option maxRecDepth 100000 in
theorem c_X4_isMet_0 (l : Launch) (D : va_G) (cA : Nat → ClassId) (W : Nat) (H : Nat) (M : Nat) (P : Nat) (c : Int) (wt : Int) (rows : Int → Int) (gro : Int → Int) (wx : Int → Int) (wy : Int → Int) (mk : Int → Int) (dp : Int) (fa : Int) (ne : Int) (sl : Int) (p0 : Int → Int) (p1 : Int → Int) (v : Int) (x : Int) (y : Int) (hW : W ≤ 32) (hH : H ≤ 32) (hP : P = W * H) (hPl : P ≤ 1024) (hfa : 0 ≤ fa ∧ fa ≤ 255) (hne : 0 ≤ ne ∧ ne ≤ 2) (hp0 : ∀ q, 0 ≤ p0 q ∧ p0 q ≤ 255) (hp1 : ∀ q, 0 ≤ p1 q ∧ p1 q ≤ 255) (hx : 0 ≤ x ∧ x < W) (hy : 0 ≤ y ∧ y < H) (hv : 0 ≤ v ∧ v ≤ 255) :
    gC l D cA yX4_isMet mX4_isMet (some .boolean) 0 0 [gr 1, gi v, gr 4, gi x, gi y] (suW W H M P c wt rows gro wx wy mk dp fa ne sl p0 p1) (fun r9 w9 => r9 = some (gi (gb (gmt W H ne fa v p0 x y))) ∧ w9 = suW W H M P c wt rows gro wx wy mk dp fa ne sl p0 p1) := by
  refine gC_of rfl kX4_isMet rfl rfl (Nat.le_of_ble_eq_true rfl) (fun X ad hX hE => ?_)
  refine G.go hX 8 (suW W H M P c wt rows gro wx wy mk dp fa ne sl p0 p1, 12, [(0, gr 1), (1, gi v), (2, gr 4), (3, gi x), (4, gi y)], [gi (x + ne), gi (W - 1)]) rfl trivial ?_
  refine g_mmin hX rfl (by decide +kernel) ⟨⟨by decide, Nat.le_of_ble_eq_true rfl⟩, by decide, by decide⟩ ⟨by omega, by omega⟩ ⟨by omega, by omega⟩ ?_
  show G X mX4_isMet ad 0 0 (suW W H M P c wt rows gro wx wy mk dp fa ne sl p0 p1, 15, [(0, gr 1), (1, gi v), (2, gr 4), (3, gi x), (4, gi y)], [gi (min (W - 1) (x + ne))])
  refine G.go hX 9 (suW W H M P c wt rows gro wx wy mk dp fa ne sl p0 p1, 30, [(0, gr 1), (1, gi v), (2, gr 4), (3, gi x), (4, gi y), (5, gi (min (W - 1) (x + ne)))], [gi (y + ne), gi (H - 1)]) rfl trivial ?_
  refine g_mmin hX rfl (by decide +kernel) ⟨⟨by decide, Nat.le_of_ble_eq_true rfl⟩, by decide, by decide⟩ ⟨by omega, by omega⟩ ⟨by omega, by omega⟩ ?_
  show G X mX4_isMet ad 0 0 (suW W H M P c wt rows gro wx wy mk dp fa ne sl p0 p1, 33, [(0, gr 1), (1, gi v), (2, gr 4), (3, gi x), (4, gi y), (5, gi (min (W - 1) (x + ne)))], [gi (min (H - 1) (y + ne))])
  refine G.go hX 6 (suW W H M P c wt rows gro wx wy mk dp fa ne sl p0 p1, 43, [(0, gr 1), (1, gi v), (2, gr 4), (3, gi x), (4, gi y), (5, gi (min (W - 1) (x + ne))), (6, gi (min (H - 1) (y + ne)))], [gi (y - ne), gi 0]) rfl trivial ?_
  refine g_mmax hX rfl (by decide +kernel) ⟨⟨by decide, Nat.le_of_ble_eq_true rfl⟩, by decide, by decide⟩ ⟨by omega, by omega⟩ ⟨by omega, by omega⟩ ?_
  show G X mX4_isMet ad 0 0 (suW W H M P c wt rows gro wx wy mk dp fa ne sl p0 p1, 46, [(0, gr 1), (1, gi v), (2, gr 4), (3, gi x), (4, gi y), (5, gi (min (W - 1) (x + ne))), (6, gi (min (H - 1) (y + ne)))], [gi (max 0 (y - ne))])
  refine G.go hX 1 (suW W H M P c wt rows gro wx wy mk dp fa ne sl p0 p1, 48, [(0, gr 1), (1, gi v), (2, gr 4), (3, gi x), (4, gi y), (5, gi (min (W - 1) (x + ne))), (6, gi (min (H - 1) (y + ne))), (7, gi (max 0 (y - ne)))], []) rfl trivial ?_
  have lp48 : ∀ (n : Nat) (ro : Int), (0 ≤ ro ∧ y - ne ≤ ro ∧ ro ≤ min ((H : Int) - 1) (y + ne) + 1) → (gnm W H ne fa v p0 x y ro 0) → (min ((H : Int) - 1) (y + ne) + 1 - ro).toNat < n → G X mX4_isMet ad 0 0 (suW W H M P c wt rows gro wx wy mk dp fa ne sl p0 p1, 48, [(0, gr 1), (1, gi v), (2, gr 4), (3, gi x), (4, gi y), (5, gi (min ((W : Int) - 1) (x + ne))), (6, gi (min ((H : Int) - 1) (y + ne))), (7, gi ro)], []) := by
    intro n
    induction n with
    | zero => intro ro hro hs1 hm9; exact absurd hm9 (Nat.not_lt_zero _)
    | succ n ih48 =>
      intro ro hro hs1 hm48
      refine G.go hX 2 (suW W H M P c wt rows gro wx wy mk dp fa ne sl p0 p1, 52, [(0, gr 1), (1, gi v), (2, gr 4), (3, gi x), (4, gi y), (5, gi (min ((W : Int) - 1) (x + ne))), (6, gi (min ((H : Int) - 1) (y + ne))), (7, gi ro)], [gi (min ((H : Int) - 1) (y + ne)), gi ro]) rfl trivial ?_
      refine g_icmp_gt hX 108 rfl rfl ⟨by omega, by omega⟩ ⟨by omega, by omega⟩ (fun b52 => ?_) (fun b52 => ?_)
      ·
        refine G.go hX 1 (suW W H M P c wt rows gro wx wy mk dp fa ne sl p0 p1, 109, [(0, gr 1), (1, gi v), (2, gr 4), (3, gi x), (4, gi y), (5, gi (min ((W : Int) - 1) (x + ne))), (6, gi (min ((H : Int) - 1) (y + ne))), (7, gi ro)], [gi 0]) rfl trivial ?_
        exact g_zret hX hE rfl (Or.inl rfl) ⟨(congrArg (fun z => some (gi z)) (gb_f (by exact fun ⟨a, b, h1, h2, h3, h4, h5, h6, h7, h8, h9⟩ => hs1 a b h1 h2 h3 h4 h5 h6 h7 h8 (by omega) h9)).symm), rfl⟩
      ·
        refine G.go hX 5 (suW W H M P c wt rows gro wx wy mk dp fa ne sl p0 p1, 62, [(0, gr 1), (1, gi v), (2, gr 4), (3, gi x), (4, gi y), (5, gi (min ((W : Int) - 1) (x + ne))), (6, gi (min ((H : Int) - 1) (y + ne))), (7, gi ro)], [gi (x - ne), gi 0]) rfl trivial ?_
        refine g_mmax hX rfl (by decide +kernel) ⟨⟨by decide, Nat.le_of_ble_eq_true rfl⟩, by decide, by decide⟩ ⟨by omega, by omega⟩ ⟨by omega, by omega⟩ ?_
        show G X mX4_isMet ad 0 0 (suW W H M P c wt rows gro wx wy mk dp fa ne sl p0 p1, 65, [(0, gr 1), (1, gi v), (2, gr 4), (3, gi x), (4, gi y), (5, gi (min ((W : Int) - 1) (x + ne))), (6, gi (min ((H : Int) - 1) (y + ne))), (7, gi ro)], [gi (max 0 (x - ne))])
        refine G.go hX 1 (suW W H M P c wt rows gro wx wy mk dp fa ne sl p0 p1, 67, [(0, gr 1), (1, gi v), (2, gr 4), (3, gi x), (4, gi y), (5, gi (min ((W : Int) - 1) (x + ne))), (6, gi (min ((H : Int) - 1) (y + ne))), (7, gi ro), (8, gi (max 0 (x - ne)))], []) rfl trivial ?_
        have lp67 : ∀ (n : Nat) (co : Int), (0 ≤ co ∧ x - ne ≤ co ∧ co ≤ min ((W : Int) - 1) (x + ne) + 1) → (gnm W H ne fa v p0 x y ro co) → (min ((W : Int) - 1) (x + ne) + 1 - co).toNat < n → G X mX4_isMet ad 0 0 (suW W H M P c wt rows gro wx wy mk dp fa ne sl p0 p1, 67, [(0, gr 1), (1, gi v), (2, gr 4), (3, gi x), (4, gi y), (5, gi (min ((W : Int) - 1) (x + ne))), (6, gi (min ((H : Int) - 1) (y + ne))), (7, gi ro), (8, gi co)], []) := by
          intro n
          induction n with
          | zero => intro co hco hs3 hm9; exact absurd hm9 (Nat.not_lt_zero _)
          | succ n ih67 =>
            intro co hco hs3 hm67
            refine G.go hX 2 (suW W H M P c wt rows gro wx wy mk dp fa ne sl p0 p1, 71, [(0, gr 1), (1, gi v), (2, gr 4), (3, gi x), (4, gi y), (5, gi (min ((W : Int) - 1) (x + ne))), (6, gi (min ((H : Int) - 1) (y + ne))), (7, gi ro), (8, gi co)], [gi (min ((W : Int) - 1) (x + ne)), gi co]) rfl trivial ?_
            refine g_icmp_gt hX 102 rfl rfl ⟨by omega, by omega⟩ ⟨by omega, by omega⟩ (fun b71 => ?_) (fun b71 => ?_)
            ·
              refine G.go hX 2 (suW W H M P c wt rows gro wx wy mk dp fa ne sl p0 p1, 48, [(0, gr 1), (1, gi v), (2, gr 4), (3, gi x), (4, gi y), (5, gi (min ((W : Int) - 1) (x + ne))), (6, gi (min ((H : Int) - 1) (y + ne))), (7, gi (ro + 1)), (8, gi co)], []) rfl trivial ?_
              refine G.locs [(0, gr 1), (1, gi v), (2, gr 4), (3, gi x), (4, gi y), (5, gi (min ((W : Int) - 1) (x + ne))), (6, gi (min ((H : Int) - 1) (y + ne))), (7, gi (ro + 1))] [0, 1, 2, 3, 4, 5, 6, 7] rfl ?_
              exact ih48 (ro + 1) (by omega) (by intro a b h1 h2 h3 h4 h5 h6 h7 h8 h9; exact hs3 a b h1 h2 h3 h4 h5 h6 h7 h8 (by omega)) (by omega)
            ·
              have hix := gix hP (x := co) (y := ro) (by omega) (by omega) (by omega) (by omega)
              have hpo := hp0 (ro * W + co)
              refine G.go hX 10 (suW W H M P c wt rows gro wx wy mk dp fa ne sl p0 p1, 88, [(0, gr 1), (1, gi v), (2, gr 4), (3, gi x), (4, gi y), (5, gi (min ((W : Int) - 1) (x + ne))), (6, gi (min ((H : Int) - 1) (y + ne))), (7, gi ro), (8, gi co)], [gi (p0 ((ro * W) + co)), gi v, gr 1]) rfl ?_ ?_
              · refine ⟨?_, trivial⟩
                · omega
              refine G.callV (av := [gi v, gi (p0 ((ro * W) + co))]) (o := 1) (st := []) hX rfl (fun l D cA => c_X4_isClose l D cA W H M P c wt rows gro wx wy mk dp fa ne sl p0 p1 v (p0 ((ro * W) + co)) (by first | assumption | omega) (by first | assumption | omega) (by first | assumption | omega)) (by decide +kernel) aX4_isClose rfl rfl rfl ⟨rfl, rfl⟩ (by decide) (Nat.le_of_ble_eq_true rfl) [0, 1, 2, 3, 4, 5, 6, 7, 8, 9] [] [] rfl rfl rfl (fun r w' hp => ?_)
              obtain ⟨rfl, rfl⟩ := hp
              show G X mX4_isMet ad 0 0 (suW W H M P c wt rows gro wx wy mk dp fa ne sl p0 p1, 91, [(0, gr 1), (1, gi v), (2, gr 4), (3, gi x), (4, gi y), (5, gi (min ((W : Int) - 1) (x + ne))), (6, gi (min ((H : Int) - 1) (y + ne))), (7, gi ro), (8, gi co)], [gi (gb (gcl fa v (p0 ((ro * W) + co))))])
              refine g_if_eq hX 96 rfl rfl (gb_r _) (fun b91 => ?_) (fun b91 => ?_)
              ·
                have b91 := gb_0.mp b91
                refine G.go hX 2 (suW W H M P c wt rows gro wx wy mk dp fa ne sl p0 p1, 67, [(0, gr 1), (1, gi v), (2, gr 4), (3, gi x), (4, gi y), (5, gi (min ((W : Int) - 1) (x + ne))), (6, gi (min ((H : Int) - 1) (y + ne))), (7, gi ro), (8, gi (co + 1))], []) rfl trivial ?_
                exact ih67 (co + 1) (by omega) (by exact gnm_next hs3 b91) (by omega)
              ·
                have b91 := gb_n0 b91
                refine G.go hX 1 (suW W H M P c wt rows gro wx wy mk dp fa ne sl p0 p1, 95, [(0, gr 1), (1, gi v), (2, gr 4), (3, gi x), (4, gi y), (5, gi (min ((W : Int) - 1) (x + ne))), (6, gi (min ((H : Int) - 1) (y + ne))), (7, gi ro), (8, gi co)], [gi 1]) rfl trivial ?_
                exact g_zret hX hE rfl (Or.inr rfl) ⟨(congrArg (fun z => some (gi z)) (gb_t (by exact ⟨co, ro, by omega, by omega, by omega, by omega, by omega, by omega, by omega, by omega, b91⟩)).symm), rfl⟩
        exact lp67 _ (max 0 (x - ne)) (by omega) (by intro a b h1 h2 h3 h4 h5 h6 h7 h8 h9; exact hs1 a b h1 h2 h3 h4 h5 h6 h7 h8 (by omega)) (Nat.lt_succ_self _)
  exact lp48 _ (max 0 (y - ne)) (by omega) (by intro a b _ _ _ _ _ _ _ _ h9; omega) (Nat.lt_succ_self _)
set_option maxHeartbeats 4000000 in
set_option maxRecDepth 100000 in
theorem c_X4_isMet_1 (l : Launch) (D : va_G) (cA : Nat → ClassId) (W : Nat) (H : Nat) (M : Nat) (P : Nat) (c : Int) (wt : Int) (rows : Int → Int) (gro : Int → Int) (wx : Int → Int) (wy : Int → Int) (mk : Int → Int) (dp : Int) (fa : Int) (ne : Int) (sl : Int) (p0 : Int → Int) (p1 : Int → Int) (v : Int) (x : Int) (y : Int) (hW : W ≤ 32) (hH : H ≤ 32) (hP : P = W * H) (hPl : P ≤ 1024) (hfa : 0 ≤ fa ∧ fa ≤ 255) (hne : 0 ≤ ne ∧ ne ≤ 2) (hp0 : ∀ q, 0 ≤ p0 q ∧ p0 q ≤ 255) (hp1 : ∀ q, 0 ≤ p1 q ∧ p1 q ≤ 255) (hx : 0 ≤ x ∧ x < W) (hy : 0 ≤ y ∧ y < H) (hv : 0 ≤ v ∧ v ≤ 255) :
    gC l D cA yX4_isMet mX4_isMet (some .boolean) 0 0 [gr 1, gi v, gr 5, gi x, gi y] (suW W H M P c wt rows gro wx wy mk dp fa ne sl p0 p1) (fun r9 w9 => r9 = some (gi (gb (gmt W H ne fa v p1 x y))) ∧ w9 = suW W H M P c wt rows gro wx wy mk dp fa ne sl p0 p1) := by
  refine gC_of rfl kX4_isMet rfl rfl (Nat.le_of_ble_eq_true rfl) (fun X ad hX hE => ?_)
  refine G.go hX 8 (suW W H M P c wt rows gro wx wy mk dp fa ne sl p0 p1, 12, [(0, gr 1), (1, gi v), (2, gr 5), (3, gi x), (4, gi y)], [gi (x + ne), gi (W - 1)]) rfl trivial ?_
  refine g_mmin hX rfl (by decide +kernel) ⟨⟨by decide, Nat.le_of_ble_eq_true rfl⟩, by decide, by decide⟩ ⟨by omega, by omega⟩ ⟨by omega, by omega⟩ ?_
  show G X mX4_isMet ad 0 0 (suW W H M P c wt rows gro wx wy mk dp fa ne sl p0 p1, 15, [(0, gr 1), (1, gi v), (2, gr 5), (3, gi x), (4, gi y)], [gi (min (W - 1) (x + ne))])
  refine G.go hX 9 (suW W H M P c wt rows gro wx wy mk dp fa ne sl p0 p1, 30, [(0, gr 1), (1, gi v), (2, gr 5), (3, gi x), (4, gi y), (5, gi (min (W - 1) (x + ne)))], [gi (y + ne), gi (H - 1)]) rfl trivial ?_
  refine g_mmin hX rfl (by decide +kernel) ⟨⟨by decide, Nat.le_of_ble_eq_true rfl⟩, by decide, by decide⟩ ⟨by omega, by omega⟩ ⟨by omega, by omega⟩ ?_
  show G X mX4_isMet ad 0 0 (suW W H M P c wt rows gro wx wy mk dp fa ne sl p0 p1, 33, [(0, gr 1), (1, gi v), (2, gr 5), (3, gi x), (4, gi y), (5, gi (min (W - 1) (x + ne)))], [gi (min (H - 1) (y + ne))])
  refine G.go hX 6 (suW W H M P c wt rows gro wx wy mk dp fa ne sl p0 p1, 43, [(0, gr 1), (1, gi v), (2, gr 5), (3, gi x), (4, gi y), (5, gi (min (W - 1) (x + ne))), (6, gi (min (H - 1) (y + ne)))], [gi (y - ne), gi 0]) rfl trivial ?_
  refine g_mmax hX rfl (by decide +kernel) ⟨⟨by decide, Nat.le_of_ble_eq_true rfl⟩, by decide, by decide⟩ ⟨by omega, by omega⟩ ⟨by omega, by omega⟩ ?_
  show G X mX4_isMet ad 0 0 (suW W H M P c wt rows gro wx wy mk dp fa ne sl p0 p1, 46, [(0, gr 1), (1, gi v), (2, gr 5), (3, gi x), (4, gi y), (5, gi (min (W - 1) (x + ne))), (6, gi (min (H - 1) (y + ne)))], [gi (max 0 (y - ne))])
  refine G.go hX 1 (suW W H M P c wt rows gro wx wy mk dp fa ne sl p0 p1, 48, [(0, gr 1), (1, gi v), (2, gr 5), (3, gi x), (4, gi y), (5, gi (min (W - 1) (x + ne))), (6, gi (min (H - 1) (y + ne))), (7, gi (max 0 (y - ne)))], []) rfl trivial ?_
  have lp48 : ∀ (n : Nat) (ro : Int), (0 ≤ ro ∧ y - ne ≤ ro ∧ ro ≤ min ((H : Int) - 1) (y + ne) + 1) → (gnm W H ne fa v p1 x y ro 0) → (min ((H : Int) - 1) (y + ne) + 1 - ro).toNat < n → G X mX4_isMet ad 0 0 (suW W H M P c wt rows gro wx wy mk dp fa ne sl p0 p1, 48, [(0, gr 1), (1, gi v), (2, gr 5), (3, gi x), (4, gi y), (5, gi (min ((W : Int) - 1) (x + ne))), (6, gi (min ((H : Int) - 1) (y + ne))), (7, gi ro)], []) := by
    intro n
    induction n with
    | zero => intro ro hro hs1 hm9; exact absurd hm9 (Nat.not_lt_zero _)
    | succ n ih48 =>
      intro ro hro hs1 hm48
      refine G.go hX 2 (suW W H M P c wt rows gro wx wy mk dp fa ne sl p0 p1, 52, [(0, gr 1), (1, gi v), (2, gr 5), (3, gi x), (4, gi y), (5, gi (min ((W : Int) - 1) (x + ne))), (6, gi (min ((H : Int) - 1) (y + ne))), (7, gi ro)], [gi (min ((H : Int) - 1) (y + ne)), gi ro]) rfl trivial ?_
      refine g_icmp_gt hX 108 rfl rfl ⟨by omega, by omega⟩ ⟨by omega, by omega⟩ (fun b52 => ?_) (fun b52 => ?_)
      ·
        refine G.go hX 1 (suW W H M P c wt rows gro wx wy mk dp fa ne sl p0 p1, 109, [(0, gr 1), (1, gi v), (2, gr 5), (3, gi x), (4, gi y), (5, gi (min ((W : Int) - 1) (x + ne))), (6, gi (min ((H : Int) - 1) (y + ne))), (7, gi ro)], [gi 0]) rfl trivial ?_
        exact g_zret hX hE rfl (Or.inl rfl) ⟨(congrArg (fun z => some (gi z)) (gb_f (by exact fun ⟨a, b, h1, h2, h3, h4, h5, h6, h7, h8, h9⟩ => hs1 a b h1 h2 h3 h4 h5 h6 h7 h8 (by omega) h9)).symm), rfl⟩
      ·
        refine G.go hX 5 (suW W H M P c wt rows gro wx wy mk dp fa ne sl p0 p1, 62, [(0, gr 1), (1, gi v), (2, gr 5), (3, gi x), (4, gi y), (5, gi (min ((W : Int) - 1) (x + ne))), (6, gi (min ((H : Int) - 1) (y + ne))), (7, gi ro)], [gi (x - ne), gi 0]) rfl trivial ?_
        refine g_mmax hX rfl (by decide +kernel) ⟨⟨by decide, Nat.le_of_ble_eq_true rfl⟩, by decide, by decide⟩ ⟨by omega, by omega⟩ ⟨by omega, by omega⟩ ?_
        show G X mX4_isMet ad 0 0 (suW W H M P c wt rows gro wx wy mk dp fa ne sl p0 p1, 65, [(0, gr 1), (1, gi v), (2, gr 5), (3, gi x), (4, gi y), (5, gi (min ((W : Int) - 1) (x + ne))), (6, gi (min ((H : Int) - 1) (y + ne))), (7, gi ro)], [gi (max 0 (x - ne))])
        refine G.go hX 1 (suW W H M P c wt rows gro wx wy mk dp fa ne sl p0 p1, 67, [(0, gr 1), (1, gi v), (2, gr 5), (3, gi x), (4, gi y), (5, gi (min ((W : Int) - 1) (x + ne))), (6, gi (min ((H : Int) - 1) (y + ne))), (7, gi ro), (8, gi (max 0 (x - ne)))], []) rfl trivial ?_
        have lp67 : ∀ (n : Nat) (co : Int), (0 ≤ co ∧ x - ne ≤ co ∧ co ≤ min ((W : Int) - 1) (x + ne) + 1) → (gnm W H ne fa v p1 x y ro co) → (min ((W : Int) - 1) (x + ne) + 1 - co).toNat < n → G X mX4_isMet ad 0 0 (suW W H M P c wt rows gro wx wy mk dp fa ne sl p0 p1, 67, [(0, gr 1), (1, gi v), (2, gr 5), (3, gi x), (4, gi y), (5, gi (min ((W : Int) - 1) (x + ne))), (6, gi (min ((H : Int) - 1) (y + ne))), (7, gi ro), (8, gi co)], []) := by
          intro n
          induction n with
          | zero => intro co hco hs3 hm9; exact absurd hm9 (Nat.not_lt_zero _)
          | succ n ih67 =>
            intro co hco hs3 hm67
            refine G.go hX 2 (suW W H M P c wt rows gro wx wy mk dp fa ne sl p0 p1, 71, [(0, gr 1), (1, gi v), (2, gr 5), (3, gi x), (4, gi y), (5, gi (min ((W : Int) - 1) (x + ne))), (6, gi (min ((H : Int) - 1) (y + ne))), (7, gi ro), (8, gi co)], [gi (min ((W : Int) - 1) (x + ne)), gi co]) rfl trivial ?_
            refine g_icmp_gt hX 102 rfl rfl ⟨by omega, by omega⟩ ⟨by omega, by omega⟩ (fun b71 => ?_) (fun b71 => ?_)
            ·
              refine G.go hX 2 (suW W H M P c wt rows gro wx wy mk dp fa ne sl p0 p1, 48, [(0, gr 1), (1, gi v), (2, gr 5), (3, gi x), (4, gi y), (5, gi (min ((W : Int) - 1) (x + ne))), (6, gi (min ((H : Int) - 1) (y + ne))), (7, gi (ro + 1)), (8, gi co)], []) rfl trivial ?_
              refine G.locs [(0, gr 1), (1, gi v), (2, gr 5), (3, gi x), (4, gi y), (5, gi (min ((W : Int) - 1) (x + ne))), (6, gi (min ((H : Int) - 1) (y + ne))), (7, gi (ro + 1))] [0, 1, 2, 3, 4, 5, 6, 7] rfl ?_
              exact ih48 (ro + 1) (by omega) (by intro a b h1 h2 h3 h4 h5 h6 h7 h8 h9; exact hs3 a b h1 h2 h3 h4 h5 h6 h7 h8 (by omega)) (by omega)
            ·
              have hix := gix hP (x := co) (y := ro) (by omega) (by omega) (by omega) (by omega)
              have hpo := hp1 (ro * W + co)
              refine G.go hX 10 (suW W H M P c wt rows gro wx wy mk dp fa ne sl p0 p1, 88, [(0, gr 1), (1, gi v), (2, gr 5), (3, gi x), (4, gi y), (5, gi (min ((W : Int) - 1) (x + ne))), (6, gi (min ((H : Int) - 1) (y + ne))), (7, gi ro), (8, gi co)], [gi (p1 ((ro * W) + co)), gi v, gr 1]) rfl ?_ ?_
              · refine ⟨?_, trivial⟩
                · omega
              refine G.callV (av := [gi v, gi (p1 ((ro * W) + co))]) (o := 1) (st := []) hX rfl (fun l D cA => c_X4_isClose l D cA W H M P c wt rows gro wx wy mk dp fa ne sl p0 p1 v (p1 ((ro * W) + co)) (by first | assumption | omega) (by first | assumption | omega) (by first | assumption | omega)) (by decide +kernel) aX4_isClose rfl rfl rfl ⟨rfl, rfl⟩ (by decide) (Nat.le_of_ble_eq_true rfl) [0, 1, 2, 3, 4, 5, 6, 7, 8, 9] [] [] rfl rfl rfl (fun r w' hp => ?_)
              obtain ⟨rfl, rfl⟩ := hp
              show G X mX4_isMet ad 0 0 (suW W H M P c wt rows gro wx wy mk dp fa ne sl p0 p1, 91, [(0, gr 1), (1, gi v), (2, gr 5), (3, gi x), (4, gi y), (5, gi (min ((W : Int) - 1) (x + ne))), (6, gi (min ((H : Int) - 1) (y + ne))), (7, gi ro), (8, gi co)], [gi (gb (gcl fa v (p1 ((ro * W) + co))))])
              refine g_if_eq hX 96 rfl rfl (gb_r _) (fun b91 => ?_) (fun b91 => ?_)
              ·
                have b91 := gb_0.mp b91
                refine G.go hX 2 (suW W H M P c wt rows gro wx wy mk dp fa ne sl p0 p1, 67, [(0, gr 1), (1, gi v), (2, gr 5), (3, gi x), (4, gi y), (5, gi (min ((W : Int) - 1) (x + ne))), (6, gi (min ((H : Int) - 1) (y + ne))), (7, gi ro), (8, gi (co + 1))], []) rfl trivial ?_
                exact ih67 (co + 1) (by omega) (by exact gnm_next hs3 b91) (by omega)
              ·
                have b91 := gb_n0 b91
                refine G.go hX 1 (suW W H M P c wt rows gro wx wy mk dp fa ne sl p0 p1, 95, [(0, gr 1), (1, gi v), (2, gr 5), (3, gi x), (4, gi y), (5, gi (min ((W : Int) - 1) (x + ne))), (6, gi (min ((H : Int) - 1) (y + ne))), (7, gi ro), (8, gi co)], [gi 1]) rfl trivial ?_
                exact g_zret hX hE rfl (Or.inr rfl) ⟨(congrArg (fun z => some (gi z)) (gb_t (by exact ⟨co, ro, by omega, by omega, by omega, by omega, by omega, by omega, by omega, by omega, b91⟩)).symm), rfl⟩
        exact lp67 _ (max 0 (x - ne)) (by omega) (by intro a b h1 h2 h3 h4 h5 h6 h7 h8 h9; exact hs1 a b h1 h2 h3 h4 h5 h6 h7 h8 (by omega)) (Nat.lt_succ_self _)
  exact lp48 _ (max 0 (y - ne)) (by omega) (by intro a b _ _ _ _ _ _ _ _ h9; omega) (Nat.lt_succ_self _)
set_option maxHeartbeats 4000000 in
set_option maxRecDepth 100000 in
theorem c_X4_isUnmetAt (l : Launch) (D : va_G) (cA : Nat → ClassId) (W : Nat) (H : Nat) (M : Nat) (P : Nat) (c : Int) (wt : Int) (rows : Int → Int) (gro : Int → Int) (wx : Int → Int) (wy : Int → Int) (mk : Int → Int) (dp : Int) (fa : Int) (ne : Int) (sl : Int) (p0 : Int → Int) (p1 : Int → Int) (x : Int) (y : Int) (hW : W ≤ 32) (hH : H ≤ 32) (hP : P = W * H) (hPl : P ≤ 1024) (hfa : 0 ≤ fa ∧ fa ≤ 255) (hne : 0 ≤ ne ∧ ne ≤ 2) (hp0 : ∀ q, 0 ≤ p0 q ∧ p0 q ≤ 255) (hp1 : ∀ q, 0 ≤ p1 q ∧ p1 q ≤ 255) (hx : 0 ≤ x ∧ x < W) (hy : 0 ≤ y ∧ y < H) :
    gC l D cA yX4_isUnmetAt mX4_isUnmetAt (some .boolean) 0 0 [gr 1, gi x, gi y] (suW W H M P c wt rows gro wx wy mk dp fa ne sl p0 p1) (fun r9 w9 => r9 = some (gi (gb (gun W H ne fa p0 p1 x y))) ∧ w9 = suW W H M P c wt rows gro wx wy mk dp fa ne sl p0 p1) := by
  have hix := gix hP hx.1 hx.2 hy.1 hy.2
  have hpa := hp0 (y * W + x)
  have hpb := hp1 (y * W + x)
  refine gC_of rfl kX4_isUnmetAt rfl rfl (Nat.le_of_ble_eq_true rfl) (fun X ad hX hE => ?_)
  refine G.go hX 10 (suW W H M P c wt rows gro wx wy mk dp fa ne sl p0 p1, 14, [(0, gr 1), (1, gi x), (2, gi y), (3, gi ((y * W) + x))], [gi 0, gr 3]) rfl trivial ?_
  refine g_aald hX 4 rfl rfl (by omega) rfl ?_
  refine G.go hX 6 (suW W H M P c wt rows gro wx wy mk dp fa ne sl p0 p1, 24, [(0, gr 1), (1, gi x), (2, gi y), (3, gi ((y * W) + x)), (4, gi (p0 ((y * W) + x)))], [gi 1, gr 3]) rfl ?_ ?_
  · refine ⟨?_, trivial⟩
    · omega
  refine g_aald hX 5 rfl rfl (by omega) rfl ?_
  refine G.go hX 6 (suW W H M P c wt rows gro wx wy mk dp fa ne sl p0 p1, 34, [(0, gr 1), (1, gi x), (2, gi y), (3, gi ((y * W) + x)), (4, gi (p0 ((y * W) + x))), (5, gi (p1 ((y * W) + x)))], [gi (p1 ((y * W) + x)), gi (p0 ((y * W) + x)), gr 1]) rfl ?_ ?_
  · refine ⟨?_, trivial⟩
    · omega
  refine G.callV (av := [gi (p0 ((y * W) + x)), gi (p1 ((y * W) + x))]) (o := 1) (st := []) hX rfl (fun l D cA => c_X4_isClose l D cA W H M P c wt rows gro wx wy mk dp fa ne sl p0 p1 (p0 ((y * W) + x)) (p1 ((y * W) + x)) (by first | assumption | omega) (by first | assumption | omega) (by first | assumption | omega)) (by decide +kernel) aX4_isClose rfl rfl rfl ⟨rfl, rfl⟩ (by decide) (Nat.le_of_ble_eq_true rfl) [0, 1, 2, 3, 4, 5, 6, 7, 8, 9] [] [] rfl rfl rfl (fun r w' hp => ?_)
  obtain ⟨rfl, rfl⟩ := hp
  show G X mX4_isUnmetAt ad 0 0 (suW W H M P c wt rows gro wx wy mk dp fa ne sl p0 p1, 37, [(0, gr 1), (1, gi x), (2, gi y), (3, gi ((y * W) + x)), (4, gi (p0 ((y * W) + x))), (5, gi (p1 ((y * W) + x)))], [gi (gb (gcl fa (p0 ((y * W) + x)) (p1 ((y * W) + x))))])
  refine g_if_eq hX 42 rfl rfl (gb_r _) (fun b37 => ?_) (fun b37 => ?_)
  ·
    have b37 := gb_0.mp b37
    refine G.go hX 5 (suW W H M P c wt rows gro wx wy mk dp fa ne sl p0 p1, 50, [(0, gr 1), (1, gi x), (2, gi y), (3, gi ((y * W) + x)), (4, gi (p0 ((y * W) + x))), (5, gi (p1 ((y * W) + x)))], [gi 1, gr 3, gi (p0 ((y * W) + x)), gr 1]) rfl trivial ?_
    refine g_aald hX 5 rfl rfl (by omega) rfl ?_
    refine G.go hX 2 (suW W H M P c wt rows gro wx wy mk dp fa ne sl p0 p1, 53, [(0, gr 1), (1, gi x), (2, gi y), (3, gi ((y * W) + x)), (4, gi (p0 ((y * W) + x))), (5, gi (p1 ((y * W) + x)))], [gi y, gi x, gr 5, gi (p0 ((y * W) + x)), gr 1]) rfl trivial ?_
    refine G.callV (av := [gi (p0 ((y * W) + x)), gr 5, gi x, gi y]) (o := 1) (st := []) hX rfl (fun l D cA => c_X4_isMet_1 l D cA W H M P c wt rows gro wx wy mk dp fa ne sl p0 p1 (p0 ((y * W) + x)) x y (by first | assumption | omega) (by first | assumption | omega) (by first | assumption | omega) (by first | assumption | omega) (by first | assumption | omega) (by first | assumption | omega) (by first | assumption | omega) (by first | assumption | omega) (by first | assumption | omega) (by first | assumption | omega) (by first | assumption | omega)) (by decide +kernel) aX4_isMet rfl rfl rfl ⟨rfl, rfl⟩ (by decide) (Nat.le_of_ble_eq_true rfl) [0, 1, 2, 3, 4, 5, 6, 7, 8, 9] [] [] rfl rfl rfl (fun r w' hp => ?_)
    obtain ⟨rfl, rfl⟩ := hp
    show G X mX4_isUnmetAt ad 0 0 (suW W H M P c wt rows gro wx wy mk dp fa ne sl p0 p1, 56, [(0, gr 1), (1, gi x), (2, gi y), (3, gi ((y * W) + x)), (4, gi (p0 ((y * W) + x))), (5, gi (p1 ((y * W) + x)))], [gi (gb (gmt W H ne fa (p0 ((y * W) + x)) p1 x y))])
    refine g_if_eq hX 76 rfl rfl (gb_r _) (fun b56 => ?_) (fun b56 => ?_)
    ·
      have b56 := gb_0.mp b56
      refine G.go hX 2 (suW W H M P c wt rows gro wx wy mk dp fa ne sl p0 p1, 81, [(0, gr 1), (1, gi x), (2, gi y), (3, gi ((y * W) + x)), (4, gi (p0 ((y * W) + x))), (5, gi (p1 ((y * W) + x)))], [gi 1]) rfl trivial ?_
      exact g_zret hX hE rfl (Or.inr rfl) ⟨(congrArg (fun z => some (gi z)) (gb_t (by unfold gun; first | exact fun h9 => b56 h9.1 | exact fun h9 => b73 h9.2 | exact fun h9 => h9 ⟨b56, b73⟩)).symm), rfl⟩
    ·
      have b56 := gb_n0 b56
      refine G.go hX 5 (suW W H M P c wt rows gro wx wy mk dp fa ne sl p0 p1, 67, [(0, gr 1), (1, gi x), (2, gi y), (3, gi ((y * W) + x)), (4, gi (p0 ((y * W) + x))), (5, gi (p1 ((y * W) + x)))], [gi 0, gr 3, gi (p1 ((y * W) + x)), gr 1]) rfl trivial ?_
      refine g_aald hX 4 rfl rfl (by omega) rfl ?_
      refine G.go hX 2 (suW W H M P c wt rows gro wx wy mk dp fa ne sl p0 p1, 70, [(0, gr 1), (1, gi x), (2, gi y), (3, gi ((y * W) + x)), (4, gi (p0 ((y * W) + x))), (5, gi (p1 ((y * W) + x)))], [gi y, gi x, gr 4, gi (p1 ((y * W) + x)), gr 1]) rfl trivial ?_
      refine G.callV (av := [gi (p1 ((y * W) + x)), gr 4, gi x, gi y]) (o := 1) (st := []) hX rfl (fun l D cA => c_X4_isMet_0 l D cA W H M P c wt rows gro wx wy mk dp fa ne sl p0 p1 (p1 ((y * W) + x)) x y (by first | assumption | omega) (by first | assumption | omega) (by first | assumption | omega) (by first | assumption | omega) (by first | assumption | omega) (by first | assumption | omega) (by first | assumption | omega) (by first | assumption | omega) (by first | assumption | omega) (by first | assumption | omega) (by first | assumption | omega)) (by decide +kernel) aX4_isMet rfl rfl rfl ⟨rfl, rfl⟩ (by decide) (Nat.le_of_ble_eq_true rfl) [0, 1, 2, 3, 4, 5, 6, 7, 8, 9] [] [] rfl rfl rfl (fun r w' hp => ?_)
      obtain ⟨rfl, rfl⟩ := hp
      show G X mX4_isUnmetAt ad 0 0 (suW W H M P c wt rows gro wx wy mk dp fa ne sl p0 p1, 73, [(0, gr 1), (1, gi x), (2, gi y), (3, gi ((y * W) + x)), (4, gi (p0 ((y * W) + x))), (5, gi (p1 ((y * W) + x)))], [gi (gb (gmt W H ne fa (p1 ((y * W) + x)) p0 x y))])
      refine g_if_ne hX 80 rfl rfl (gb_r _) (fun b73 => ?_) (fun b73 => ?_)
      ·
        have b73 := gb_n0 b73
        refine G.go hX 1 (suW W H M P c wt rows gro wx wy mk dp fa ne sl p0 p1, 81, [(0, gr 1), (1, gi x), (2, gi y), (3, gi ((y * W) + x)), (4, gi (p0 ((y * W) + x))), (5, gi (p1 ((y * W) + x)))], [gi 0]) rfl trivial ?_
        exact g_zret hX hE rfl (Or.inl rfl) ⟨(congrArg (fun z => some (gi z)) (gb_f (by unfold gun; first | exact fun h9 => b56 h9.1 | exact fun h9 => b73 h9.2 | exact fun h9 => h9 ⟨b56, b73⟩)).symm), rfl⟩
      ·
        have b73 := gb_nn b73
        refine G.go hX 2 (suW W H M P c wt rows gro wx wy mk dp fa ne sl p0 p1, 81, [(0, gr 1), (1, gi x), (2, gi y), (3, gi ((y * W) + x)), (4, gi (p0 ((y * W) + x))), (5, gi (p1 ((y * W) + x)))], [gi 1]) rfl trivial ?_
        exact g_zret hX hE rfl (Or.inr rfl) ⟨(congrArg (fun z => some (gi z)) (gb_t (by unfold gun; first | exact fun h9 => b56 h9.1 | exact fun h9 => b73 h9.2 | exact fun h9 => h9 ⟨b56, b73⟩)).symm), rfl⟩
  ·
    have b37 := gb_n0 b37
    refine G.go hX 1 (suW W H M P c wt rows gro wx wy mk dp fa ne sl p0 p1, 41, [(0, gr 1), (1, gi x), (2, gi y), (3, gi ((y * W) + x)), (4, gi (p0 ((y * W) + x))), (5, gi (p1 ((y * W) + x)))], [gi 0]) rfl trivial ?_
    exact g_zret hX hE rfl (Or.inl rfl) ⟨(congrArg (fun z => some (gi z)) (gb_f (by intro h9; exact h9 ⟨gcl_met hne.1 hx hy b37, gcl_met hne.1 hx hy (by unfold gcl at *; omega)⟩)).symm), rfl⟩
set_option maxHeartbeats 4000000 in
set_option maxRecDepth 100000 in
theorem c_X4_holds (l : Launch) (D : va_G) (cA : Nat → ClassId) (W : Nat) (H : Nat) (M : Nat) (P : Nat) (c : Int) (wt : Int) (rows : Int → Int) (gro : Int → Int) (wx : Int → Int) (wy : Int → Int) (mk : Int → Int) (dp : Int) (fa : Int) (ne : Int) (sl : Int) (p0 : Int → Int) (p1 : Int → Int) (x : Int) (y : Int) (hW : W ≤ 32) (hH : H ≤ 32) (hx : inR x) (hy : inR y) :
    gC l D cA yX4_holds mX4_holds (some .boolean) 0 0 [gr 1, gi x, gi y] (suW W H M P c wt rows gro wx wy mk dp fa ne sl p0 p1) (fun r9 w9 => r9 = some (gi (gb ((0 ≤ x ∧ x < W) ∧ 0 ≤ y ∧ y < H))) ∧ w9 = suW W H M P c wt rows gro wx wy mk dp fa ne sl p0 p1) := by
  refine gC_of rfl kX4_holds rfl rfl (Nat.le_of_ble_eq_true rfl) (fun X ad hX hE => ?_)
  refine G.go hX 1 (suW W H M P c wt rows gro wx wy mk dp fa ne sl p0 p1, 1, [(0, gr 1), (1, gi x), (2, gi y)], [gi x]) rfl trivial ?_
  refine g_if_lt hX 28 rfl rfl ⟨by omega, by omega⟩ (fun b1 => ?_) (fun b1 => ?_)
  ·
    refine G.go hX 1 (suW W H M P c wt rows gro wx wy mk dp fa ne sl p0 p1, 29, [(0, gr 1), (1, gi x), (2, gi y)], [gi 0]) rfl trivial ?_
    exact g_zret hX hE rfl (Or.inl rfl) ⟨(congrArg (fun z => some (gi z)) (gb_f (by omega)).symm), rfl⟩
  ·
    refine G.go hX 3 (suW W H M P c wt rows gro wx wy mk dp fa ne sl p0 p1, 9, [(0, gr 1), (1, gi x), (2, gi y)], [gi W, gi x]) rfl trivial ?_
    refine g_icmp_ge hX 28 rfl rfl ⟨by omega, by omega⟩ ⟨by omega, by omega⟩ (fun b9 => ?_) (fun b9 => ?_)
    ·
      refine G.go hX 1 (suW W H M P c wt rows gro wx wy mk dp fa ne sl p0 p1, 29, [(0, gr 1), (1, gi x), (2, gi y)], [gi 0]) rfl trivial ?_
      exact g_zret hX hE rfl (Or.inl rfl) ⟨(congrArg (fun z => some (gi z)) (gb_f (by omega)).symm), rfl⟩
    ·
      refine G.go hX 1 (suW W H M P c wt rows gro wx wy mk dp fa ne sl p0 p1, 13, [(0, gr 1), (1, gi x), (2, gi y)], [gi y]) rfl trivial ?_
      refine g_if_lt hX 28 rfl rfl ⟨by omega, by omega⟩ (fun b13 => ?_) (fun b13 => ?_)
      ·
        refine G.go hX 1 (suW W H M P c wt rows gro wx wy mk dp fa ne sl p0 p1, 29, [(0, gr 1), (1, gi x), (2, gi y)], [gi 0]) rfl trivial ?_
        exact g_zret hX hE rfl (Or.inl rfl) ⟨(congrArg (fun z => some (gi z)) (gb_f (by omega)).symm), rfl⟩
      ·
        refine G.go hX 3 (suW W H M P c wt rows gro wx wy mk dp fa ne sl p0 p1, 21, [(0, gr 1), (1, gi x), (2, gi y)], [gi H, gi y]) rfl trivial ?_
        refine g_icmp_ge hX 28 rfl rfl ⟨by omega, by omega⟩ ⟨by omega, by omega⟩ (fun b21 => ?_) (fun b21 => ?_)
        ·
          refine G.go hX 1 (suW W H M P c wt rows gro wx wy mk dp fa ne sl p0 p1, 29, [(0, gr 1), (1, gi x), (2, gi y)], [gi 0]) rfl trivial ?_
          exact g_zret hX hE rfl (Or.inl rfl) ⟨(congrArg (fun z => some (gi z)) (gb_f (by omega)).symm), rfl⟩
        ·
          refine G.go hX 2 (suW W H M P c wt rows gro wx wy mk dp fa ne sl p0 p1, 29, [(0, gr 1), (1, gi x), (2, gi y)], [gi 1]) rfl trivial ?_
          exact g_zret hX hE rfl (Or.inr rfl) ⟨(congrArg (fun z => some (gi z)) (gb_t (by omega)).symm), rfl⟩
set_option maxHeartbeats 4000000 in
set_option maxRecDepth 100000 in
theorem c_X4_put_0 (l : Launch) (D : va_G) (cA : Nat → ClassId) (W : Nat) (H : Nat) (M : Nat) (P : Nat) (c : Int) (wt : Int) (rows : Int → Int) (gro : Int → Int) (wx : Int → Int) (wy : Int → Int) (mk : Int → Int) (dp : Int) (fa : Int) (ne : Int) (sl : Int) (p0 : Int → Int) (p1 : Int → Int) (x : Int) (y : Int) (v : Int) (hW : W ≤ 32) (hH : H ≤ 32) (hP : P = W * H) (hPl : P ≤ 1024) (hx : 0 ≤ x ∧ x < W) (hy : 0 ≤ y ∧ y < H) :
    gC l D cA yX4_put mX4_put (some .int) 0 0 [gr 1, gi 0, gi x, gi y, gi v] (suW W H M P c wt rows gro wx wy mk dp fa ne sl p0 p1) (fun r9 w9 => r9 = some (gi (p0 (y * W + x))) ∧ w9 = suW W H M P c wt rows gro wx wy mk dp fa ne 1 (gu p0 (y * W + x) v) p1) := by
  have hix := gix hP hx.1 hx.2 hy.1 hy.2
  refine gC_of rfl kX4_put rfl rfl (Nat.le_of_ble_eq_true rfl) (fun X ad hX hE => ?_)
  refine G.go hX 10 (suW W H M P c wt rows gro wx wy mk dp fa ne sl p0 p1, 15, [(0, gr 1), (1, gi 0), (2, gi x), (3, gi y), (4, gi v), (5, gi ((y * W) + x))], [gi 0, gr 3]) rfl trivial ?_
  refine g_aald hX 4 rfl rfl (by omega) rfl ?_
  refine G.go hX 6 (suW W H M P c wt rows gro wx wy mk dp fa ne sl p0 p1, 26, [(0, gr 1), (1, gi 0), (2, gi x), (3, gi y), (4, gi v), (5, gi ((y * W) + x)), (6, gi (p0 ((y * W) + x)))], [gi 0, gr 3]) rfl ?_ ?_
  · refine ⟨?_, trivial⟩
    · omega
  refine g_aald hX 4 rfl rfl (by omega) rfl ?_
  refine G.go hX 7 (suW W H M P c wt rows gro wx wy mk dp fa ne 1 (gu p0 ((y * W) + x) v) p1, 39, [(0, gr 1), (1, gi 0), (2, gi x), (3, gi y), (4, gi v), (5, gi ((y * W) + x)), (6, gi (p0 ((y * W) + x)))], [gi (p0 ((y * W) + x))]) rfl ?_ ?_
  · refine ⟨?_, ?_, trivial⟩
    · omega
    · omega
  exact g_iret hX hE rfl ⟨(congrArg (fun z => some (gi z)) (by first | rfl | (omega))), (by first | rfl | (omega))⟩
set_option maxHeartbeats 4000000 in
set_option maxRecDepth 100000 in
theorem c_X4_put_1 (l : Launch) (D : va_G) (cA : Nat → ClassId) (W : Nat) (H : Nat) (M : Nat) (P : Nat) (c : Int) (wt : Int) (rows : Int → Int) (gro : Int → Int) (wx : Int → Int) (wy : Int → Int) (mk : Int → Int) (dp : Int) (fa : Int) (ne : Int) (sl : Int) (p0 : Int → Int) (p1 : Int → Int) (x : Int) (y : Int) (v : Int) (hW : W ≤ 32) (hH : H ≤ 32) (hP : P = W * H) (hPl : P ≤ 1024) (hx : 0 ≤ x ∧ x < W) (hy : 0 ≤ y ∧ y < H) :
    gC l D cA yX4_put mX4_put (some .int) 0 0 [gr 1, gi 1, gi x, gi y, gi v] (suW W H M P c wt rows gro wx wy mk dp fa ne sl p0 p1) (fun r9 w9 => r9 = some (gi (p1 (y * W + x))) ∧ w9 = suW W H M P c wt rows gro wx wy mk dp fa ne 1 p0 (gu p1 (y * W + x) v)) := by
  have hix := gix hP hx.1 hx.2 hy.1 hy.2
  refine gC_of rfl kX4_put rfl rfl (Nat.le_of_ble_eq_true rfl) (fun X ad hX hE => ?_)
  refine G.go hX 10 (suW W H M P c wt rows gro wx wy mk dp fa ne sl p0 p1, 15, [(0, gr 1), (1, gi 1), (2, gi x), (3, gi y), (4, gi v), (5, gi ((y * W) + x))], [gi 1, gr 3]) rfl trivial ?_
  refine g_aald hX 5 rfl rfl (by omega) rfl ?_
  refine G.go hX 6 (suW W H M P c wt rows gro wx wy mk dp fa ne sl p0 p1, 26, [(0, gr 1), (1, gi 1), (2, gi x), (3, gi y), (4, gi v), (5, gi ((y * W) + x)), (6, gi (p1 ((y * W) + x)))], [gi 1, gr 3]) rfl ?_ ?_
  · refine ⟨?_, trivial⟩
    · omega
  refine g_aald hX 5 rfl rfl (by omega) rfl ?_
  refine G.go hX 7 (suW W H M P c wt rows gro wx wy mk dp fa ne 1 p0 (gu p1 ((y * W) + x) v), 39, [(0, gr 1), (1, gi 1), (2, gi x), (3, gi y), (4, gi v), (5, gi ((y * W) + x)), (6, gi (p1 ((y * W) + x)))], [gi (p1 ((y * W) + x))]) rfl ?_ ?_
  · refine ⟨?_, ?_, trivial⟩
    · omega
    · omega
  exact g_iret hX hE rfl ⟨(congrArg (fun z => some (gi z)) (by first | rfl | (omega))), (by first | rfl | (omega))⟩
set_option maxHeartbeats 4000000 in
set_option maxRecDepth 100000 in
theorem c_X4_limit (l : Launch) (D : va_G) (cA : Nat → ClassId) (W : Nat) (H : Nat) (M : Nat) (P : Nat) (c : Int) (wt : Int) (rows : Int → Int) (gro : Int → Int) (wx : Int → Int) (wy : Int → Int) (mk : Int → Int) (dp : Int) (fa : Int) (ne : Int) (sl : Int) (p0 : Int → Int) (p1 : Int → Int) (a : Int) (b : Int)  :
    gC l D cA yX4_limit mX4_limit (some .int) 0 0 [gr 1, gi a, gi b] (suW W H M P c wt rows gro wx wy mk dp fa ne sl p0 p1) (fun r9 w9 => r9 = some (gi (10 * fa + ne)) ∧ w9 = suW W H M P c wt rows gro wx wy mk dp a b 1 p0 p1) := by
  refine gC_of rfl kX4_limit rfl rfl (Nat.le_of_ble_eq_true rfl) (fun X ad hX hE => ?_)
  refine G.go hX 18 (suW W H M P c wt rows gro wx wy mk dp a b 1 p0 p1, 29, [(0, gr 1), (1, gi a), (2, gi b), (3, gi ((10 * fa) + ne))], [gi ((10 * fa) + ne)]) rfl ?_ ?_
  · refine ⟨?_, trivial⟩
    · omega
  exact g_iret hX hE rfl ⟨(congrArg (fun z => some (gi z)) (by first | rfl | (omega))), rfl⟩
