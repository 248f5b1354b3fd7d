theorem gSc_b {W H P M : Nat} {r : Int} {mk m : Int → Int} {c : Int} {rows : Int → Int} (h : gSc W H P M r mk m c rows) : (∀ q, m q = 0 ∨ m q = 1) ∧ 0 ≤ c ∧ c ≤ M ∧ (∀ j, inR (rows j)) ∧ ∀ q, m q = 1 → mk q = 1 := by
  obtain ⟨own, f, s1, s2, s3, _⟩ := h
  exact ⟨s2, f.1.1, f.1.2, f.2.1, s3⟩
/-- the places before (row y, column x) have no mark -/
def gsc2 (W : Nat) (m : Int → Int) (x y : Int) : Prop := ∀ a b : Int, 0 ≤ a → a < W → 0 ≤ b → (b < y ∨ (b = y ∧ a < x)) → m (b * W + a) = 0
set_option maxHeartbeats 4000000 in
set_option maxRecDepth 100000 in
theorem c_X1_gather (l : Launch) (D : va_G) (cA : Nat → ClassId) (W : Nat) (H : Nat) (M : Nat) (P : Nat) (c : Int) (wt : Int) (rows : Int → Int) (gro : Int → Int) (wx : Int → Int) (wy : Int → Int) (mk : Int → Int) (r : Int) (hW : W ≤ 32) (hH : H ≤ 32) (hP : P = W * H) (hPl : P ≤ 1024) (hM : M = ((W + 1) / 2) * ((H + 1) / 2)) (hMl : M ≤ 256) (hr : 1 ≤ r ∧ r ≤ 3) (hbm : ∀ q, mk q = 0 ∨ mk q = 1) (hmkP : ∀ q, mk q = 1 → 0 ≤ q ∧ q < P) (hrr : ∀ j : Int, inR (rows j)) (hgr : ∀ j : Int, inR (gro j)) :
    gC l D cA yX1_gather mX1_gather none 0 0 [gr 2, gr 6, gi r] (bxW W H M P c wt rows gro wx wy mk) (fun r9 w9 => ∃ (c2 : Int) (wt2 : Int) (rows2 : Int → Int) (gro2 : Int → Int) (wx2 : Int → Int) (wy2 : Int → Int) (mk2 : Int → Int), r9 = none ∧ w9 = bxW W H M P c2 wt2 rows2 gro2 wx2 wy2 mk2 ∧ (gDone W H P r mk c2 rows2) ∧ (fsrt c2 (grw rows2)) ∧ (c2 ≤ M) ∧ (∀ j : Int, inR (gro2 j)) ∧ (∀ q, mk2 q = 0)) := by
  refine gC_of rfl kX1_gather rfl rfl (Nat.le_of_ble_eq_true rfl) (fun X ad hX hE => ?_)
  refine G.go hX 5 (bxW W H M P 0 wt rows gro wx wy mk, 7, [(0, gr 2), (1, gr 6), (2, gi r), (3, gi 0)], []) rfl trivial ?_
  have lp7 : ∀ (n : Nat) (y : Int) (c1 : Int) (wt1 : Int) (rows1 : Int → Int) (gro1 : Int → Int) (wx1 : Int → Int) (wy1 : Int → Int) (mk1 : Int → Int), (gSc W H P M r mk mk1 c1 rows1) → (0 ≤ y ∧ y ≤ H) → (gsc2 W mk1 0 y) → (∀ j : Int, inR (gro1 j)) → (H - y).toNat < n → G X mX1_gather ad 0 0 (bxW W H M P c1 wt1 rows1 gro1 wx1 wy1 mk1, 7, [(0, gr 2), (1, gr 6), (2, gi r), (3, gi y)], []) := by
    intro n
    induction n with
    | zero => intro y c1 wt1 rows1 gro1 wx1 wy1 mk1 hS1 hy1 hz1 hG1 hm9; exact absurd hm9 (Nat.not_lt_zero _)
    | succ n ih7 =>
      intro y c1 wt1 rows1 gro1 wx1 wy1 mk1 hS1 hy1 hz1 hG1 hm7
      refine G.go hX 3 (bxW W H M P c1 wt1 rows1 gro1 wx1 wy1 mk1, 12, [(0, gr 2), (1, gr 6), (2, gi r), (3, gi y)], [gi H, gi y]) rfl trivial ?_
      refine g_icmp_ge hX 70 rfl rfl ⟨by omega, by omega⟩ ⟨by omega, by omega⟩ (fun b12 => ?_) (fun b12 => ?_)
      ·
        have hb1 := gSc_b hS1
        have hall : ∀ x y : Int, 0 ≤ x → x < W → 0 ≤ y → y < H → mk1 (y * W + x) = 0 := fun a b h1 h2 h3 h4 => hz1 a b h1 h2 h3 (by omega)
        have hD1 := gSc_done hP hS1 hall
        refine G.go hX 1 (bxW W H M P c1 wt1 rows1 gro1 wx1 wy1 mk1, 71, [(0, gr 2), (1, gr 6), (2, gi r), (3, gi y)], [gr 2]) rfl trivial ?_
        refine G.callV (av := []) (o := 2) (st := []) hX rfl (fun l D cA => c_X1_sort l D cA W H M P c1 wt1 rows1 gro1 wx1 wy1 mk1 (gDone W H P r mk c1) (by first | assumption | omega) ⟨by omega, by omega⟩ gDone_swap (fun _ h => h.2.1) hD1) (by decide +kernel) aX1_sort rfl rfl rfl ⟨rfl, rfl⟩ (by decide) (Nat.le_of_ble_eq_true rfl) [0, 1, 2, 3, 4, 5] [] [] rfl rfl rfl (fun r w' hp => ?_)
        obtain ⟨rows6, rfl, rfl, hF6, hs6⟩ := hp
        show G X mX1_gather ad 0 0 (bxW W H M P c1 wt1 rows6 gro1 wx1 wy1 mk1, 74, [(0, gr 2), (1, gr 6), (2, gi r), (3, gi y)], [])
        exact g_vret hX hE rfl ⟨c1, wt1, rows6, gro1, wx1, wy1, mk1, rfl, rfl, hF6, gDone_srt hF6 hs6, by omega, hG1, fun q => by (rcases hb1.1 q with h9 | h9; exact h9; (have h8 := hmkP q (hb1.2.2.2.2 q h9); have h7 := gplace hP h8.1 h8.2; have h6 := hall _ _ h7.1.1 h7.1.2 h7.2.1.1 h7.2.1.2; rw [h7.2.2] at h6; exact h6))⟩
      ·
        refine G.go hX 2 (bxW W H M P c1 wt1 rows1 gro1 wx1 wy1 mk1, 18, [(0, gr 2), (1, gr 6), (2, gi r), (3, gi y), (4, gi 0)], []) rfl trivial ?_
        have lp18 : ∀ (n : Nat) (x : Int) (c3 : Int) (wt3 : Int) (rows3 : Int → Int) (gro3 : Int → Int) (wx3 : Int → Int) (wy3 : Int → Int) (mk3 : Int → Int), (gSc W H P M r mk mk3 c3 rows3) → (0 ≤ x ∧ x ≤ W) → (gsc2 W mk3 x y) → (∀ j : Int, inR (gro3 j)) → (W - x).toNat < n → G X mX1_gather ad 0 0 (bxW W H M P c3 wt3 rows3 gro3 wx3 wy3 mk3, 18, [(0, gr 2), (1, gr 6), (2, gi r), (3, gi y), (4, gi x)], []) := by
          intro n
          induction n with
          | zero => intro x c3 wt3 rows3 gro3 wx3 wy3 mk3 hS3 hx3 hz3 hG3 hm9; exact absurd hm9 (Nat.not_lt_zero _)
          | succ n ih18 =>
            intro x c3 wt3 rows3 gro3 wx3 wy3 mk3 hS3 hx3 hz3 hG3 hm18
            have hb3 := gSc_b hS3
            refine G.go hX 3 (bxW W H M P c3 wt3 rows3 gro3 wx3 wy3 mk3, 24, [(0, gr 2), (1, gr 6), (2, gi r), (3, gi y), (4, gi x)], [gi W, gi x]) rfl trivial ?_
            refine g_icmp_ge hX 64 rfl rfl ⟨by omega, by omega⟩ ⟨by omega, by omega⟩ (fun b24 => ?_) (fun b24 => ?_)
            ·
              refine G.go hX 2 (bxW W H M P c3 wt3 rows3 gro3 wx3 wy3 mk3, 7, [(0, gr 2), (1, gr 6), (2, gi r), (3, gi (y + 1)), (4, gi x)], []) rfl trivial ?_
              refine G.locs [(0, gr 2), (1, gr 6), (2, gi r), (3, gi (y + 1))] [0, 1, 2, 3] rfl ?_
              exact ih7 (y + 1) c3 wt3 rows3 gro3 wx3 wy3 mk3 (by exact hS3) (by omega) (by intro a b h1 h2 h3 h4; exact hz3 a b h1 h2 h3 (by omega)) (by exact hG3) (by omega)
            ·
              have hix := gix hP (x := x) (y := y) (by omega) (by omega) (by omega) (by omega)
              have hbo := hb3.1 (y * W + x)
              refine G.go hX 8 (bxW W H M P c3 wt3 rows3 gro3 wx3 wy3 mk3, 38, [(0, gr 2), (1, gr 6), (2, gi r), (3, gi y), (4, gi x)], [gi (mk3 ((y * W) + x))]) rfl ?_ ?_
              · refine ⟨?_, trivial⟩
                · omega
              refine g_if_eq hX 58 rfl rfl (by rcases hbo with h9 | h9 <;> rw [h9] <;> exact ⟨by omega, by omega⟩) (fun b38 => ?_) (fun b38 => ?_)
              ·
                refine G.go hX 2 (bxW W H M P c3 wt3 rows3 gro3 wx3 wy3 mk3, 18, [(0, gr 2), (1, gr 6), (2, gi r), (3, gi y), (4, gi (x + 1))], []) rfl trivial ?_
                exact ih18 (x + 1) c3 wt3 rows3 gro3 wx3 wy3 mk3 (by exact hS3) (by omega) (by intro a b h1 h2 h3 h4; by_cases e9 : b = y ∧ a = x; (rw [e9.1, e9.2]; exact b38); exact hz3 a b h1 h2 h3 (by omega)) (by exact hG3) (by omega)
              ·
                have hm1 : mk3 (y * W + x) = 1 := by omega
                have hd4 : gdf W H mk x y := ⟨⟨by omega, by omega⟩, ⟨by omega, by omega⟩, hb3.2.2.2.2 _ hm1⟩
                refine G.go hX 5 (bxW W H M P c3 wt3 rows3 gro3 wx3 wy3 mk3, 47, [(0, gr 2), (1, gr 6), (2, gi r), (3, gi y), (4, gi x)], [gi r, gr 6, gi y, gi x, gr 2]) rfl trivial ?_
                refine G.callV (av := [gi x, gi y, gr 6, gi r]) (o := 2) (st := []) hX rfl (fun l D cA => c_X1_growFrom l D cA W H M P c3 wt3 rows3 gro3 wx3 wy3 mk3 x y r (by first | assumption | omega) (by first | assumption | omega) (by first | assumption | omega) (by first | assumption | omega) ⟨by omega, by omega⟩ ⟨by omega, by omega⟩ ⟨by omega, by omega⟩ hb3.1 hm1 hG3) (by decide +kernel) aX1_growFrom rfl rfl rfl ⟨rfl, rfl⟩ (by decide) (Nat.le_of_ble_eq_true rfl) [0, 1, 2, 3, 4, 5] [] [] rfl rfl rfl (fun r w' hp => ?_)
                obtain ⟨gro4, mk4, wt4, wx4, wy4, rfl, rfl, hg1, hg2, hg3, hg4⟩ := hp
                show G X mX1_gather ad 0 0 (bxW W H M P c3 wt4 rows3 gro4 wx4 wy4 mk4, 50, [(0, gr 2), (1, gr 6), (2, gi r), (3, gi y), (4, gi x)], [])
                obtain ⟨hA4, hb4, hs4, hc4, hz4, hmo⟩ := gSc_grow hP hPl (by omega) hS3 ⟨by omega, by omega⟩ ⟨by omega, by omega⟩ hm1 hg1 hg2 hg3
                refine G.go hX 1 (bxW W H M P c3 wt4 rows3 gro4 wx4 wy4 mk4, 51, [(0, gr 2), (1, gr 6), (2, gi r), (3, gi y), (4, gi x)], [gr 2]) rfl trivial ?_
                refine G.callV (av := []) (o := 2) (st := []) hX rfl (fun l D cA => c_X1_absorbAll l D cA W H M P c3 wt4 rows3 gro4 wx4 wy4 mk4 (gAb W H P M r mk mk4 x y) (by first | assumption | omega) (gAb_st hPl) gAb_ok hA4) (by decide +kernel) aX1_absorbAll rfl rfl rfl ⟨rfl, rfl⟩ (by decide) (Nat.le_of_ble_eq_true rfl) [0, 1, 2, 3, 4, 5] [] [] rfl rfl rfl (fun r w' hp => ?_)
                obtain ⟨c5, rows5, gro5, rfl, rfl, hF5, hns⟩ := hp
                show G X mX1_gather ad 0 0 (bxW W H M P c5 wt4 rows5 gro5 wx4 wy4 mk4, 54, [(0, gr 2), (1, gr 6), (2, gi r), (3, gi y), (4, gi x)], [])
                have hlt5 := gAb_lt hM hr.1 hF5 hd4 hz4 hns
                have hok5 := gAb_ok _ _ _ hF5
                have hg5 := hok5.2.2.2
                refine G.go hX 1 (bxW W H M P c5 wt4 rows5 gro5 wx4 wy4 mk4, 55, [(0, gr 2), (1, gr 6), (2, gi r), (3, gi y), (4, gi x)], [gr 2]) rfl trivial ?_
                refine G.callV (av := []) (o := 2) (st := []) hX rfl (fun l D cA => c_X1_keepGrown l D cA W H M P c5 wt4 rows5 gro5 wx4 wy4 mk4 (by first | assumption | omega) ⟨by omega, hlt5⟩) (by decide +kernel) aX1_keepGrown rfl rfl rfl ⟨rfl, rfl⟩ (by decide) (Nat.le_of_ble_eq_true rfl) [0, 1, 2, 3, 4, 5] [] [] rfl rfl rfl (fun r w' hp => ?_)
                obtain ⟨rfl, rfl⟩ := hp
                show G X mX1_gather ad 0 0 (bxW W H M P (c5 + 1) wt4 (gcp gro5 rows5 0 (c5 * 5) 5) gro5 wx4 wy4 mk4, 58, [(0, gr 2), (1, gr 6), (2, gi r), (3, gi y), (4, gi x)], [])
                refine G.go hX 2 (bxW W H M P (c5 + 1) wt4 (gcp gro5 rows5 0 (c5 * 5) 5) gro5 wx4 wy4 mk4, 18, [(0, gr 2), (1, gr 6), (2, gi r), (3, gi y), (4, gi (x + 1))], []) rfl trivial ?_
                exact ih18 (x + 1) (c5 + 1) wt4 (gcp gro5 rows5 0 (c5 * 5) 5) gro5 wx4 wy4 mk4 (by exact gAb_keep hF5 hd4 hz4 hns (by omega) hb4 hs4 hc4 hP hmkP) (by omega) (by intro a b h1 h2 h3 h4; by_cases e9 : b = y ∧ a = x; (rw [e9.1, e9.2]; exact hz4); exact hmo _ (hz3 a b h1 h2 h3 (by omega))) (by exact hg5) (by omega)
        exact lp18 _ 0 c1 wt1 rows1 gro1 wx1 wy1 mk1 (by exact hS1) (by omega) (by exact hz1) (by exact hG1) (Nat.lt_succ_self _)
  exact lp7 _ 0 0 wt rows gro wx wy mk (by exact gSc_first hbm hrr) (by omega) (by intro a b _ _ _ h9; omega) (by exact hgr) (Nat.lt_succ_self _)
