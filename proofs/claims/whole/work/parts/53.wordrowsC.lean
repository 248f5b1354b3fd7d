/-- what is kept until a change: the rows -/
def wVal (n0 : Int) (v0 x0 y0 o0 : Int → Int) (n1 : Int) (v1 x1 y1 o1 : Int → Int) (cn : Int) (rw_ : Int → Int) : Prop := ∃ L : Int → Int → Int, wLok n0 n1 (fun j => v0 (o0 j)) (fun j => v1 (o1 j)) L ∧ wTold (wWk n0 n1 (fun j => v0 (o0 j)) o0 (fun j => x0 (o0 j)) (fun j => y0 (o0 j)) (fun j => v1 (o1 j)) o1 (fun j => x1 (o1 j)) (fun j => y1 (o1 j)) L 80 0 0) cn rw_
theorem wTold_of {l : List (Int × Int × Int × Int)} {R rw_ : Int → Int} {c cn : Int} (hc : c = (l.length : Int)) (hr : wrl R l) (hd : wDr (wpr c.toNat R c.toNat) rw_ c cn) : wTold l cn rw_ := by
  have e : c.toNat = l.length := by omega
  rw [e] at hd
  obtain ⟨h1, h2, h3⟩ := hd
  rw [e] at h1
  exact ⟨R, hr, h1, fun k hk hne f f0 f1 => h2 k (by omega) hne f f0 f1⟩
set_option maxHeartbeats 4000000 in
set_option maxRecDepth 100000 in
theorem c_X5_refresh (l : Launch) (D : va_G) (cA : Nat → ClassId) (cn : Int) (wst : Int) (rwx : Int → Int) (lg : Int → Int) (n0 : Int) (v0 : Int → Int) (x0 : Int → Int) (y0 : Int → Int) (o0 : Int → Int) (n1 : Int) (v1 : Int → Int) (x1 : Int → Int) (y1 : Int → Int) (o1 : Int → Int) (hn : (0 ≤ n0 ∧ n0 ≤ 40) ∧ 0 ≤ n1 ∧ n1 ≤ 40) (ho0 : ∀ j, 0 ≤ j → j < n0 → 0 ≤ o0 j ∧ o0 j < n0) (ho1 : ∀ j, 0 ≤ j → j < n1 → 0 ≤ o1 j ∧ o1 j < n1) (hv : ∀ q : Int, inR (v0 q) ∧ inR (v1 q)) (hxy : ∀ q : Int, (inR (x0 q) ∧ inR (x1 q)) ∧ inR (y0 q) ∧ inR (y1 q)) (hws : wst = 0 ∨ wst = 1) (hcn : 0 ≤ cn ∧ cn ≤ 80) (hrw : ∀ q : Int, inR (rwx q)) (hval : wst = 0 → wVal n0 v0 x0 y0 o0 n1 v1 x1 y1 o1 cn rwx) :
    gC l D cA yX5_refresh mX5_refresh none 0 0 [gr 21] (wrW cn wst rwx lg n0 v0 x0 y0 o0 n1 v1 x1 y1 o1) (fun r9 w9 => ∃ (cn2 : Int) (rw2 : Int → Int) (lg2 : Int → Int), r9 = none ∧ w9 = wrW cn2 0 rw2 lg2 n0 v0 x0 y0 o0 n1 v1 x1 y1 o1 ∧ (wVal n0 v0 x0 y0 o0 n1 v1 x1 y1 o1 cn2 rw2) ∧ (0 ≤ cn2 ∧ cn2 ≤ 80) ∧ (∀ q : Int, inR (rw2 q))) := by
  refine gC_of rfl kX5_refresh rfl rfl (Nat.le_of_ble_eq_true rfl) (fun X ad hX hE => ?_)
  refine G.go hX 2 (wrW cn wst rwx lg n0 v0 x0 y0 o0 n1 v1 x1 y1 o1, 4, [(0, gr 21)], [gi wst]) rfl trivial ?_
  refine g_if_ne hX 8 rfl rfl ⟨by omega, by omega⟩ (fun b4 => ?_) (fun b4 => ?_)
  ·
    refine G.go hX 4 (wrW 0 wst rwx lg n0 v0 x0 y0 o0 n1 v1 x1 y1 o1, 14, [(0, gr 21)], [gr 21]) rfl trivial ?_
    refine G.callV (av := []) (o := 21) (st := []) hX rfl (fun l D cA => c_X5_measure l D cA 0 wst rwx lg n0 v0 x0 y0 o0 n1 v1 x1 y1 o1 (by first | assumption | omega) (by first | assumption | omega) (by first | assumption | omega) (by first | assumption | omega)) (by decide +kernel) aX5_measure rfl rfl rfl ⟨rfl, rfl⟩ (by decide) (Nat.le_of_ble_eq_true rfl) [0, 1, 2, 3, 4, 5, 6, 7, 8, 9, 10, 11, 12] [] [] rfl rfl rfl (fun r w' hp => ?_)
    obtain ⟨lg5, rfl, rfl, hq1⟩ := hp
    show G X mX5_refresh ad 0 0 (wrW 0 wst rwx lg5 n0 v0 x0 y0 o0 n1 v1 x1 y1 o1, 17, [(0, gr 21)], [])
    refine G.go hX 1 (wrW 0 wst rwx lg5 n0 v0 x0 y0 o0 n1 v1 x1 y1 o1, 18, [(0, gr 21)], [gr 21]) rfl trivial ?_
    refine G.callV (av := []) (o := 21) (st := []) hX rfl (fun l D cA => c_X5_walk l D cA 0 wst rwx lg5 n0 v0 x0 y0 o0 n1 v1 x1 y1 o1 (by first | assumption | omega) (by first | assumption | omega) (by first | assumption | omega) (by first | assumption | omega) (by first | assumption | omega) hq1 (by first | assumption | omega) (by first | assumption | omega)) (by decide +kernel) aX5_walk rfl rfl rfl ⟨rfl, rfl⟩ (by decide) (Nat.le_of_ble_eq_true rfl) [0, 1, 2, 3, 4, 5, 6, 7, 8, 9, 10, 11, 12] [] [] rfl rfl rfl (fun r w' hp => ?_)
    obtain ⟨cn5, rw5, rfl, rfl, hw1, hw2, hw3, hw4⟩ := hp
    show G X mX5_refresh ad 0 0 (wrW cn5 wst rw5 lg5 n0 v0 x0 y0 o0 n1 v1 x1 y1 o1, 21, [(0, gr 21)], [])
    refine G.go hX 1 (wrW cn5 wst rw5 lg5 n0 v0 x0 y0 o0 n1 v1 x1 y1 o1, 22, [(0, gr 21)], [gr 21]) rfl trivial ?_
    refine G.callV (av := []) (o := 21) (st := []) hX rfl (fun l D cA => c_X5_pairMoved l D cA cn5 wst rw5 lg5 n0 v0 x0 y0 o0 n1 v1 x1 y1 o1 ⟨by omega, by omega⟩ hw3) (by decide +kernel) aX5_pairMoved rfl rfl rfl ⟨rfl, rfl⟩ (by decide) (Nat.le_of_ble_eq_true rfl) [0, 1, 2, 3, 4, 5, 6, 7, 8, 9, 10, 11, 12] [] [] rfl rfl rfl (fun r w' hp => ?_)
    obtain ⟨rfl, rfl⟩ := hp
    show G X mX5_refresh ad 0 0 (wrW cn5 wst (wpr cn5.toNat rw5 cn5.toNat) lg5 n0 v0 x0 y0 o0 n1 v1 x1 y1 o1, 25, [(0, gr 21)], [])
    refine G.go hX 1 (wrW cn5 wst (wpr cn5.toNat rw5 cn5.toNat) lg5 n0 v0 x0 y0 o0 n1 v1 x1 y1 o1, 26, [(0, gr 21)], [gr 21]) rfl trivial ?_
    refine G.callV (av := []) (o := 21) (st := []) hX rfl (fun l D cA => c_X5_dropUntold l D cA cn5 wst (wpr cn5.toNat rw5 cn5.toNat) lg5 n0 v0 x0 y0 o0 n1 v1 x1 y1 o1 ⟨by omega, by omega⟩ (wpr_r hw3 _ _)) (by decide +kernel) aX5_dropUntold rfl rfl rfl ⟨rfl, rfl⟩ (by decide) (Nat.le_of_ble_eq_true rfl) [0, 1, 2, 3, 4, 5, 6, 7, 8, 9, 10, 11, 12] [] [] rfl rfl rfl (fun r w' hp => ?_)
    obtain ⟨cn6, rw6, rfl, rfl, hd1, hd2, hd3⟩ := hp
    show G X mX5_refresh ad 0 0 (wrW cn6 wst rw6 lg5 n0 v0 x0 y0 o0 n1 v1 x1 y1 o1, 29, [(0, gr 21)], [])
    refine G.go hX 3 (wrW cn6 0 rw6 lg5 n0 v0 x0 y0 o0 n1 v1 x1 y1 o1, 34, [(0, gr 21)], []) rfl ?_ ?_
    · refine ⟨?_, trivial⟩
      · omega
    exact g_vret hX hE rfl ⟨cn6, rw6, lg5, rfl, rfl, ⟨_, hq1, wTold_of hw1 hw2 hd1⟩, by omega, hd3⟩
  ·
    have hs0 : wst = 0 := by omega
    exact g_vret hX hE rfl ⟨cn, rwx, lg, rfl, by rw [hs0], hval hs0, hcn, hrw⟩
