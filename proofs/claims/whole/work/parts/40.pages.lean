abbrev pgW (w0 w1 h0 h1 : Int → Int) : gW := [(24, gob 3 [gr 25, gr 28]), (25, gar 2 2 wdq), (26, gai 0 20 w0), (27, gai 0 20 w1), (28, gar 2 2 htq), (29, gai 0 20 h0), (30, gai 0 20 h1)]
set_option maxHeartbeats 4000000 in
set_option maxRecDepth 100000 in
theorem c_X2_isThere_0 (l : Launch) (D : va_G) (cA : Nat → ClassId) (w0 : Int → Int) (w1 : Int → Int) (h0 : Int → Int) (h1 : Int → Int) (p : Int) (hpg : 0 ≤ p ∧ p < 20) (hsz : ∀ q : Int, (inR (w0 q) ∧ inR (w1 q)) ∧ inR (h0 q) ∧ inR (h1 q)) :
    gC l D cA yX2_isThere mX2_isThere (some .boolean) 0 0 [gr 24, gi 0, gi p] (pgW w0 w1 h0 h1) (fun r9 w9 => r9 = some (gi (gb (0 < w0 p))) ∧ w9 = pgW w0 w1 h0 h1) := by
  refine gC_of rfl kX2_isThere rfl rfl (Nat.le_of_ble_eq_true rfl) (fun X ad hX hE => ?_)
  refine G.go hX 3 (pgW w0 w1 h0 h1, 5, [(0, gr 24), (1, gi 0), (2, gi p)], [gi 0, gr 25]) rfl trivial ?_
  refine g_aald hX 26 rfl rfl (by omega) rfl ?_
  refine G.go hX 2 (pgW w0 w1 h0 h1, 8, [(0, gr 24), (1, gi 0), (2, gi p)], [gi (w0 p)]) rfl ?_ ?_
  · refine ⟨?_, trivial⟩
    · omega
  refine g_if_le hX 15 rfl rfl ((hsz p).1.1) (fun b8 => ?_) (fun b8 => ?_)
  ·
    refine G.go hX 1 (pgW w0 w1 h0 h1, 16, [(0, gr 24), (1, gi 0), (2, gi p)], [gi 0]) rfl trivial ?_
    exact g_zret hX hE rfl (Or.inl rfl) ⟨(congrArg (fun z => some (gi z)) (gb_f (by omega)).symm), rfl⟩
  ·
    refine G.go hX 2 (pgW w0 w1 h0 h1, 16, [(0, gr 24), (1, gi 0), (2, gi p)], [gi 1]) rfl trivial ?_
    exact g_zret hX hE rfl (Or.inr rfl) ⟨(congrArg (fun z => some (gi z)) (gb_t (by omega)).symm), rfl⟩
set_option maxHeartbeats 4000000 in
set_option maxRecDepth 100000 in
theorem c_X2_isThere_1 (l : Launch) (D : va_G) (cA : Nat → ClassId) (w0 : Int → Int) (w1 : Int → Int) (h0 : Int → Int) (h1 : Int → Int) (p : Int) (hpg : 0 ≤ p ∧ p < 20) (hsz : ∀ q : Int, (inR (w0 q) ∧ inR (w1 q)) ∧ inR (h0 q) ∧ inR (h1 q)) :
    gC l D cA yX2_isThere mX2_isThere (some .boolean) 0 0 [gr 24, gi 1, gi p] (pgW w0 w1 h0 h1) (fun r9 w9 => r9 = some (gi (gb (0 < w1 p))) ∧ w9 = pgW w0 w1 h0 h1) := by
  refine gC_of rfl kX2_isThere rfl rfl (Nat.le_of_ble_eq_true rfl) (fun X ad hX hE => ?_)
  refine G.go hX 3 (pgW w0 w1 h0 h1, 5, [(0, gr 24), (1, gi 1), (2, gi p)], [gi 1, gr 25]) rfl trivial ?_
  refine g_aald hX 27 rfl rfl (by omega) rfl ?_
  refine G.go hX 2 (pgW w0 w1 h0 h1, 8, [(0, gr 24), (1, gi 1), (2, gi p)], [gi (w1 p)]) rfl ?_ ?_
  · refine ⟨?_, trivial⟩
    · omega
  refine g_if_le hX 15 rfl rfl ((hsz p).1.2) (fun b8 => ?_) (fun b8 => ?_)
  ·
    refine G.go hX 1 (pgW w0 w1 h0 h1, 16, [(0, gr 24), (1, gi 1), (2, gi p)], [gi 0]) rfl trivial ?_
    exact g_zret hX hE rfl (Or.inl rfl) ⟨(congrArg (fun z => some (gi z)) (gb_f (by omega)).symm), rfl⟩
  ·
    refine G.go hX 2 (pgW w0 w1 h0 h1, 16, [(0, gr 24), (1, gi 1), (2, gi p)], [gi 1]) rfl trivial ?_
    exact g_zret hX hE rfl (Or.inr rfl) ⟨(congrArg (fun z => some (gi z)) (gb_t (by omega)).symm), rfl⟩
set_option maxHeartbeats 4000000 in
set_option maxRecDepth 100000 in
theorem c_X2_put_0 (l : Launch) (D : va_G) (cA : Nat → ClassId) (w0 : Int → Int) (w1 : Int → Int) (h0 : Int → Int) (h1 : Int → Int) (p : Int) (w : Int) (h : Int) (hpg : 0 ≤ p ∧ p < 20) :
    gC l D cA yX2_put mX2_put none 0 0 [gr 24, gi 0, gi p, gi w, gi h] (pgW w0 w1 h0 h1) (fun r9 w9 => r9 = none ∧ w9 = pgW (gu w0 p w) w1 (gu h0 p h) h1) := by
  refine gC_of rfl kX2_put rfl rfl (Nat.le_of_ble_eq_true rfl) (fun X ad hX hE => ?_)
  refine G.go hX 3 (pgW w0 w1 h0 h1, 5, [(0, gr 24), (1, gi 0), (2, gi p), (3, gi w), (4, gi h)], [gi 0, gr 25]) rfl trivial ?_
  refine g_aald hX 26 rfl rfl (by omega) rfl ?_
  refine G.go hX 6 (pgW (gu w0 p w) w1 h0 h1, 14, [(0, gr 24), (1, gi 0), (2, gi p), (3, gi w), (4, gi h)], [gi 0, gr 28]) rfl ?_ ?_
  · refine ⟨?_, trivial⟩
    · omega
  refine g_aald hX 29 rfl rfl (by omega) rfl ?_
  refine G.go hX 3 (pgW (gu w0 p w) w1 (gu h0 p h) h1, 19, [(0, gr 24), (1, gi 0), (2, gi p), (3, gi w), (4, gi h)], []) rfl ?_ ?_
  · refine ⟨?_, trivial⟩
    · omega
  exact g_vret hX hE rfl ⟨rfl, rfl⟩
set_option maxHeartbeats 4000000 in
set_option maxRecDepth 100000 in
theorem c_X2_put_1 (l : Launch) (D : va_G) (cA : Nat → ClassId) (w0 : Int → Int) (w1 : Int → Int) (h0 : Int → Int) (h1 : Int → Int) (p : Int) (w : Int) (h : Int) (hpg : 0 ≤ p ∧ p < 20) :
    gC l D cA yX2_put mX2_put none 0 0 [gr 24, gi 1, gi p, gi w, gi h] (pgW w0 w1 h0 h1) (fun r9 w9 => r9 = none ∧ w9 = pgW w0 (gu w1 p w) h0 (gu h1 p h)) := by
  refine gC_of rfl kX2_put rfl rfl (Nat.le_of_ble_eq_true rfl) (fun X ad hX hE => ?_)
  refine G.go hX 3 (pgW w0 w1 h0 h1, 5, [(0, gr 24), (1, gi 1), (2, gi p), (3, gi w), (4, gi h)], [gi 1, gr 25]) rfl trivial ?_
  refine g_aald hX 27 rfl rfl (by omega) rfl ?_
  refine G.go hX 6 (pgW w0 (gu w1 p w) h0 h1, 14, [(0, gr 24), (1, gi 1), (2, gi p), (3, gi w), (4, gi h)], [gi 1, gr 28]) rfl ?_ ?_
  · refine ⟨?_, trivial⟩
    · omega
  refine g_aald hX 30 rfl rfl (by omega) rfl ?_
  refine G.go hX 3 (pgW w0 (gu w1 p w) h0 (gu h1 p h), 19, [(0, gr 24), (1, gi 1), (2, gi p), (3, gi w), (4, gi h)], []) rfl ?_ ?_
  · refine ⟨?_, trivial⟩
    · omega
  exact g_vret hX hE rfl ⟨rfl, rfl⟩
set_option maxHeartbeats 4000000 in
set_option maxRecDepth 100000 in
theorem c_X2_hasOtherSizes (l : Launch) (D : va_G) (cA : Nat → ClassId) (w0 : Int → Int) (w1 : Int → Int) (h0 : Int → Int) (h1 : Int → Int) (p : Int) (hpg : 0 ≤ p ∧ p < 20) (hsz : ∀ q : Int, (inR (w0 q) ∧ inR (w1 q)) ∧ inR (h0 q) ∧ inR (h1 q)) :
    gC l D cA yX2_hasOtherSizes mX2_hasOtherSizes (some .boolean) 0 0 [gr 24, gi p] (pgW w0 w1 h0 h1) (fun r9 w9 => r9 = some (gi (gb (gos w0 w1 h0 h1 p))) ∧ w9 = pgW w0 w1 h0 h1) := by
  refine gC_of rfl kX2_hasOtherSizes rfl rfl (Nat.le_of_ble_eq_true rfl) (fun X ad hX hE => ?_)
  refine G.go hX 3 (pgW w0 w1 h0 h1, 3, [(0, gr 24), (1, gi p)], [gi p, gi 0, gr 24]) rfl trivial ?_
  refine G.callV (av := [gi 0, gi p]) (o := 24) (st := []) hX rfl (fun l D cA => c_X2_isThere_0 l D cA w0 w1 h0 h1 p (by first | assumption | omega) (by first | assumption | omega)) (by decide +kernel) aX2_isThere rfl rfl rfl ⟨rfl, rfl⟩ (by decide) (Nat.le_of_ble_eq_true rfl) [0, 1, 2, 3, 4, 5, 6] [] [] rfl rfl rfl (fun r w' hp => ?_)
  obtain ⟨rfl, rfl⟩ := hp
  show G X mX2_hasOtherSizes ad 0 0 (pgW w0 w1 h0 h1, 6, [(0, gr 24), (1, gi p)], [gi (gb (0 < w0 p))])
  refine g_if_eq hX 60 rfl rfl (gb_r _) (fun b6 => ?_) (fun b6 => ?_)
  ·
    have b6 := gb_0.mp b6
    refine G.go hX 1 (pgW w0 w1 h0 h1, 61, [(0, gr 24), (1, gi p)], [gi 0]) rfl trivial ?_
    exact g_zret hX hE rfl (Or.inl rfl) ⟨(congrArg (fun z => some (gi z)) (gb_f (by unfold gos; first | exact fun h9 => b6 h9.1 | exact fun h9 => b15 h9.2.1 | exact ⟨b6, b15, Or.inl b34⟩ | exact ⟨b6, b15, Or.inr b53⟩ | (intro h9; have := h9.2.2; omega))).symm), rfl⟩
  ·
    have b6 := gb_n0 b6
    refine G.go hX 3 (pgW w0 w1 h0 h1, 12, [(0, gr 24), (1, gi p)], [gi p, gi 1, gr 24]) rfl trivial ?_
    refine G.callV (av := [gi 1, gi p]) (o := 24) (st := []) hX rfl (fun l D cA => c_X2_isThere_1 l D cA w0 w1 h0 h1 p (by first | assumption | omega) (by first | assumption | omega)) (by decide +kernel) aX2_isThere rfl rfl rfl ⟨rfl, rfl⟩ (by decide) (Nat.le_of_ble_eq_true rfl) [0, 1, 2, 3, 4, 5, 6] [] [] rfl rfl rfl (fun r w' hp => ?_)
    obtain ⟨rfl, rfl⟩ := hp
    show G X mX2_hasOtherSizes ad 0 0 (pgW w0 w1 h0 h1, 15, [(0, gr 24), (1, gi p)], [gi (gb (0 < w1 p))])
    refine g_if_eq hX 60 rfl rfl (gb_r _) (fun b15 => ?_) (fun b15 => ?_)
    ·
      have b15 := gb_0.mp b15
      refine G.go hX 1 (pgW w0 w1 h0 h1, 61, [(0, gr 24), (1, gi p)], [gi 0]) rfl trivial ?_
      exact g_zret hX hE rfl (Or.inl rfl) ⟨(congrArg (fun z => some (gi z)) (gb_f (by unfold gos; first | exact fun h9 => b6 h9.1 | exact fun h9 => b15 h9.2.1 | exact ⟨b6, b15, Or.inl b34⟩ | exact ⟨b6, b15, Or.inr b53⟩ | (intro h9; have := h9.2.2; omega))).symm), rfl⟩
    ·
      have b15 := gb_n0 b15
      refine G.go hX 3 (pgW w0 w1 h0 h1, 23, [(0, gr 24), (1, gi p)], [gi 0, gr 25]) rfl trivial ?_
      refine g_aald hX 26 rfl rfl (by omega) rfl ?_
      refine G.go hX 5 (pgW w0 w1 h0 h1, 31, [(0, gr 24), (1, gi p)], [gi 1, gr 25, gi (w0 p)]) rfl ?_ ?_
      · refine ⟨?_, trivial⟩
        · omega
      refine g_aald hX 27 rfl rfl (by omega) rfl ?_
      refine G.go hX 2 (pgW w0 w1 h0 h1, 34, [(0, gr 24), (1, gi p)], [gi (w1 p), gi (w0 p)]) rfl ?_ ?_
      · refine ⟨?_, trivial⟩
        · omega
      refine g_icmp_ne hX 56 rfl rfl (by first | exact (hsz p).1.1 | exact (hsz p).1.2) (by first | exact (hsz p).1.1 | exact (hsz p).1.2) (fun b34 => ?_) (fun b34 => ?_)
      ·
        refine G.go hX 2 (pgW w0 w1 h0 h1, 61, [(0, gr 24), (1, gi p)], [gi 1]) rfl trivial ?_
        exact g_zret hX hE rfl (Or.inr rfl) ⟨(congrArg (fun z => some (gi z)) (gb_t (by unfold gos; first | exact fun h9 => b6 h9.1 | exact fun h9 => b15 h9.2.1 | exact ⟨b6, b15, Or.inl b34⟩ | exact ⟨b6, b15, Or.inr b53⟩ | (intro h9; have := h9.2.2; omega))).symm), rfl⟩
      ·
        refine G.go hX 3 (pgW w0 w1 h0 h1, 42, [(0, gr 24), (1, gi p)], [gi 0, gr 28]) rfl trivial ?_
        refine g_aald hX 29 rfl rfl (by omega) rfl ?_
        refine G.go hX 5 (pgW w0 w1 h0 h1, 50, [(0, gr 24), (1, gi p)], [gi 1, gr 28, gi (h0 p)]) rfl ?_ ?_
        · refine ⟨?_, trivial⟩
          · omega
        refine g_aald hX 30 rfl rfl (by omega) rfl ?_
        refine G.go hX 2 (pgW w0 w1 h0 h1, 53, [(0, gr 24), (1, gi p)], [gi (h1 p), gi (h0 p)]) rfl ?_ ?_
        · refine ⟨?_, trivial⟩
          · omega
        refine g_icmp_eq hX 60 rfl rfl (by first | exact (hsz p).2.1 | exact (hsz p).2.2) (by first | exact (hsz p).2.1 | exact (hsz p).2.2) (fun b53 => ?_) (fun b53 => ?_)
        ·
          refine G.go hX 1 (pgW w0 w1 h0 h1, 61, [(0, gr 24), (1, gi p)], [gi 0]) rfl trivial ?_
          exact g_zret hX hE rfl (Or.inl rfl) ⟨(congrArg (fun z => some (gi z)) (gb_f (by unfold gos; first | exact fun h9 => b6 h9.1 | exact fun h9 => b15 h9.2.1 | exact ⟨b6, b15, Or.inl b34⟩ | exact ⟨b6, b15, Or.inr b53⟩ | (intro h9; have := h9.2.2; omega))).symm), rfl⟩
        ·
          refine G.go hX 2 (pgW w0 w1 h0 h1, 61, [(0, gr 24), (1, gi p)], [gi 1]) rfl trivial ?_
          exact g_zret hX hE rfl (Or.inr rfl) ⟨(congrArg (fun z => some (gi z)) (gb_t (by unfold gos; first | exact fun h9 => b6 h9.1 | exact fun h9 => b15 h9.2.1 | exact ⟨b6, b15, Or.inl b34⟩ | exact ⟨b6, b15, Or.inr b53⟩ | (intro h9; have := h9.2.2; omega))).symm), rfl⟩
set_option maxHeartbeats 4000000 in
set_option maxRecDepth 100000 in
theorem c_X2_isMissing (l : Launch) (D : va_G) (cA : Nat → ClassId) (w0 : Int → Int) (w1 : Int → Int) (h0 : Int → Int) (h1 : Int → Int) (p : Int) (hpg : 0 ≤ p ∧ p < 20) (hsz : ∀ q : Int, (inR (w0 q) ∧ inR (w1 q)) ∧ inR (h0 q) ∧ inR (h1 q)) :
    gC l D cA yX2_isMissing mX2_isMissing (some .boolean) 0 0 [gr 24, gi p] (pgW w0 w1 h0 h1) (fun r9 w9 => r9 = some (gi (gb (gms w0 w1 p))) ∧ w9 = pgW w0 w1 h0 h1) := by
  refine gC_of rfl kX2_isMissing rfl rfl (Nat.le_of_ble_eq_true rfl) (fun X ad hX hE => ?_)
  refine G.go hX 3 (pgW w0 w1 h0 h1, 3, [(0, gr 24), (1, gi p)], [gi p, gi 0, gr 24]) rfl trivial ?_
  refine G.callV (av := [gi 0, gi p]) (o := 24) (st := []) hX rfl (fun l D cA => c_X2_isThere_0 l D cA w0 w1 h0 h1 p (by first | assumption | omega) (by first | assumption | omega)) (by decide +kernel) aX2_isThere rfl rfl rfl ⟨rfl, rfl⟩ (by decide) (Nat.le_of_ble_eq_true rfl) [0, 1, 2, 3, 4, 5, 6] [] [] rfl rfl rfl (fun r w' hp => ?_)
  obtain ⟨rfl, rfl⟩ := hp
  show G X mX2_isMissing ad 0 0 (pgW w0 w1 h0 h1, 6, [(0, gr 24), (1, gi p)], [gi (gb (0 < w0 p))])
  refine G.go hX 3 (pgW w0 w1 h0 h1, 9, [(0, gr 24), (1, gi p)], [gi p, gi 1, gr 24, gi (gb (0 < w0 p))]) rfl trivial ?_
  refine G.callV (av := [gi 1, gi p]) (o := 24) (st := [gi (gb (0 < w0 p))]) hX rfl (fun l D cA => c_X2_isThere_1 l D cA w0 w1 h0 h1 p (by first | assumption | omega) (by first | assumption | omega)) (by decide +kernel) aX2_isThere rfl rfl rfl ⟨rfl, rfl⟩ (by decide) (Nat.le_of_ble_eq_true rfl) [0, 1, 2, 3, 4, 5, 6] [] [] rfl rfl rfl (fun r w' hp => ?_)
  obtain ⟨rfl, rfl⟩ := hp
  show G X mX2_isMissing ad 0 0 (pgW w0 w1 h0 h1, 12, [(0, gr 24), (1, gi p)], [gi (gb (0 < w1 p)), gi (gb (0 < w0 p))])
  refine g_icmp_eq hX 19 rfl rfl (gb_r _) (gb_r _) (fun b12 => ?_) (fun b12 => ?_)
  ·
    refine G.go hX 1 (pgW w0 w1 h0 h1, 20, [(0, gr 24), (1, gi p)], [gi 0]) rfl trivial ?_
    exact g_zret hX hE rfl (Or.inl rfl) ⟨(congrArg (fun z => some (gi z)) (gb_f (by unfold gms; first | (intro h9; rw [gb_c h9] at b12; exact b12 rfl) | (intro h9; apply h9; constructor <;> intro h8 <;> first | (rw [gb_t h8] at b12; exact gb_1.mp b12.symm) | (rw [gb_t h8] at b12; exact gb_1.mp b12)))).symm), rfl⟩
  ·
    refine G.go hX 2 (pgW w0 w1 h0 h1, 20, [(0, gr 24), (1, gi p)], [gi 1]) rfl trivial ?_
    exact g_zret hX hE rfl (Or.inr rfl) ⟨(congrArg (fun z => some (gi z)) (gb_t (by unfold gms; first | (intro h9; rw [gb_c h9] at b12; exact b12 rfl) | (intro h9; apply h9; constructor <;> intro h8 <;> first | (rw [gb_t h8] at b12; exact gb_1.mp b12.symm) | (rw [gb_t h8] at b12; exact gb_1.mp b12)))).symm), rfl⟩
set_option maxHeartbeats 4000000 in
set_option maxRecDepth 100000 in
theorem c_X2_countOtherSizes (l : Launch) (D : va_G) (cA : Nat → ClassId) (w0 : Int → Int) (w1 : Int → Int) (h0 : Int → Int) (h1 : Int → Int) (hsz : ∀ q : Int, (inR (w0 q) ∧ inR (w1 q)) ∧ inR (h0 q) ∧ inR (h1 q)) :
    gC l D cA yX2_countOtherSizes mX2_countOtherSizes (some .int) 0 0 [gr 24] (pgW w0 w1 h0 h1) (fun r9 w9 => r9 = some (gi (gsm (fun q => gb (gos w0 w1 h0 h1 q)) 20)) ∧ w9 = pgW w0 w1 h0 h1) := by
  refine gC_of rfl kX2_countOtherSizes rfl rfl (Nat.le_of_ble_eq_true rfl) (fun X ad hX hE => ?_)
  refine G.go hX 4 (pgW w0 w1 h0 h1, 4, [(0, gr 24), (1, gi 0), (2, gi 0)], []) rfl trivial ?_
  have lp4 : ∀ (n : Nat) (n1 : Int) (p : Int), (0 ≤ p ∧ p ≤ 20) → (n1 = gsm (fun q => gb (gos w0 w1 h0 h1 q)) p.toNat) → (20 - p).toNat < n → G X mX2_countOtherSizes ad 0 0 (pgW w0 w1 h0 h1, 4, [(0, gr 24), (1, gi n1), (2, gi p)], []) := by
    intro n
    induction n with
    | zero => intro n1 p hp hn hm9; exact absurd hm9 (Nat.not_lt_zero _)
    | succ n ih4 =>
      intro n1 p hp hn hm4
      refine G.go hX 2 (pgW w0 w1 h0 h1, 7, [(0, gr 24), (1, gi n1), (2, gi p)], [gi 20, gi p]) rfl trivial ?_
      refine g_icmp_ge hX 32 rfl rfl ⟨by omega, by omega⟩ ⟨by omega, by omega⟩ (fun b7 => ?_) (fun b7 => ?_)
      ·
        refine G.go hX 1 (pgW w0 w1 h0 h1, 33, [(0, gr 24), (1, gi n1), (2, gi p)], [gi n1]) rfl trivial ?_
        exact g_iret hX hE rfl ⟨(congrArg (fun z => some (gi z)) (by first | rfl | (rw [hn, show p = 20 by omega]; rfl))), rfl⟩
      ·
        refine G.go hX 3 (pgW w0 w1 h0 h1, 13, [(0, gr 24), (1, gi n1), (2, gi p)], [gi p, gr 24, gi n1]) rfl trivial ?_
        refine G.callV (av := [gi p]) (o := 24) (st := [gi n1]) hX rfl (fun l D cA => c_X2_hasOtherSizes l D cA w0 w1 h0 h1 p (by first | assumption | omega) (by first | assumption | omega)) (by decide +kernel) aX2_hasOtherSizes rfl rfl rfl ⟨rfl, rfl⟩ (by decide) (Nat.le_of_ble_eq_true rfl) [0, 1, 2, 3, 4, 5, 6] [] [] rfl rfl rfl (fun r w' hp => ?_)
        obtain ⟨rfl, rfl⟩ := hp
        show G X mX2_countOtherSizes ad 0 0 (pgW w0 w1 h0 h1, 16, [(0, gr 24), (1, gi n1), (2, gi p)], [gi (gb (gos w0 w1 h0 h1 p)), gi n1])
        refine g_if_eq hX 23 rfl rfl (gb_r _) (fun b16 => ?_) (fun b16 => ?_)
        ·
          have b16 := gb_0.mp b16
          refine G.go hX 5 (pgW w0 w1 h0 h1, 4, [(0, gr 24), (1, gi (n1 + 0)), (2, gi (p + 1))], []) rfl trivial ?_
          exact ih4 (n1 + 0) (p + 1) (by omega) (by have h9 := gsm_next (fun q => gb (gos w0 w1 h0 h1 q)) hp.1 hn; first | (rw [gb_t b16] at h9; exact h9) | (rw [gb_f b16] at h9; exact h9)) (by omega)
        ·
          have b16 := gb_n0 b16
          refine G.go hX 6 (pgW w0 w1 h0 h1, 4, [(0, gr 24), (1, gi (n1 + 1)), (2, gi (p + 1))], []) rfl trivial ?_
          exact ih4 (n1 + 1) (p + 1) (by omega) (by have h9 := gsm_next (fun q => gb (gos w0 w1 h0 h1 q)) hp.1 hn; first | (rw [gb_t b16] at h9; exact h9) | (rw [gb_f b16] at h9; exact h9)) (by omega)
  exact lp4 _ 0 0 (by omega) (by rfl) (Nat.lt_succ_self _)
set_option maxHeartbeats 4000000 in
set_option maxRecDepth 100000 in
theorem c_X2_countMissing (l : Launch) (D : va_G) (cA : Nat → ClassId) (w0 : Int → Int) (w1 : Int → Int) (h0 : Int → Int) (h1 : Int → Int) (hsz : ∀ q : Int, (inR (w0 q) ∧ inR (w1 q)) ∧ inR (h0 q) ∧ inR (h1 q)) :
    gC l D cA yX2_countMissing mX2_countMissing (some .int) 0 0 [gr 24] (pgW w0 w1 h0 h1) (fun r9 w9 => r9 = some (gi (gsm (fun q => gb (gms w0 w1 q)) 20)) ∧ w9 = pgW w0 w1 h0 h1) := by
  refine gC_of rfl kX2_countMissing rfl rfl (Nat.le_of_ble_eq_true rfl) (fun X ad hX hE => ?_)
  refine G.go hX 4 (pgW w0 w1 h0 h1, 4, [(0, gr 24), (1, gi 0), (2, gi 0)], []) rfl trivial ?_
  have lp4 : ∀ (n : Nat) (n1 : Int) (p : Int), (0 ≤ p ∧ p ≤ 20) → (n1 = gsm (fun q => gb (gms w0 w1 q)) p.toNat) → (20 - p).toNat < n → G X mX2_countMissing ad 0 0 (pgW w0 w1 h0 h1, 4, [(0, gr 24), (1, gi n1), (2, gi p)], []) := by
    intro n
    induction n with
    | zero => intro n1 p hp hn hm9; exact absurd hm9 (Nat.not_lt_zero _)
    | succ n ih4 =>
      intro n1 p hp hn hm4
      refine G.go hX 2 (pgW w0 w1 h0 h1, 7, [(0, gr 24), (1, gi n1), (2, gi p)], [gi 20, gi p]) rfl trivial ?_
      refine g_icmp_ge hX 32 rfl rfl ⟨by omega, by omega⟩ ⟨by omega, by omega⟩ (fun b7 => ?_) (fun b7 => ?_)
      ·
        refine G.go hX 1 (pgW w0 w1 h0 h1, 33, [(0, gr 24), (1, gi n1), (2, gi p)], [gi n1]) rfl trivial ?_
        exact g_iret hX hE rfl ⟨(congrArg (fun z => some (gi z)) (by first | rfl | (rw [hn, show p = 20 by omega]; rfl))), rfl⟩
      ·
        refine G.go hX 3 (pgW w0 w1 h0 h1, 13, [(0, gr 24), (1, gi n1), (2, gi p)], [gi p, gr 24, gi n1]) rfl trivial ?_
        refine G.callV (av := [gi p]) (o := 24) (st := [gi n1]) hX rfl (fun l D cA => c_X2_isMissing l D cA w0 w1 h0 h1 p (by first | assumption | omega) (by first | assumption | omega)) (by decide +kernel) aX2_isMissing rfl rfl rfl ⟨rfl, rfl⟩ (by decide) (Nat.le_of_ble_eq_true rfl) [0, 1, 2, 3, 4, 5, 6] [] [] rfl rfl rfl (fun r w' hp => ?_)
        obtain ⟨rfl, rfl⟩ := hp
        show G X mX2_countMissing ad 0 0 (pgW w0 w1 h0 h1, 16, [(0, gr 24), (1, gi n1), (2, gi p)], [gi (gb (gms w0 w1 p)), gi n1])
        refine g_if_eq hX 23 rfl rfl (gb_r _) (fun b16 => ?_) (fun b16 => ?_)
        ·
          have b16 := gb_0.mp b16
          refine G.go hX 5 (pgW w0 w1 h0 h1, 4, [(0, gr 24), (1, gi (n1 + 0)), (2, gi (p + 1))], []) rfl trivial ?_
          exact ih4 (n1 + 0) (p + 1) (by omega) (by have h9 := gsm_next (fun q => gb (gms w0 w1 q)) hp.1 hn; first | (rw [gb_t b16] at h9; exact h9) | (rw [gb_f b16] at h9; exact h9)) (by omega)
        ·
          have b16 := gb_n0 b16
          refine G.go hX 6 (pgW w0 w1 h0 h1, 4, [(0, gr 24), (1, gi (n1 + 1)), (2, gi (p + 1))], []) rfl trivial ?_
          exact ih4 (n1 + 1) (p + 1) (by omega) (by have h9 := gsm_next (fun q => gb (gms w0 w1 q)) hp.1 hn; first | (rw [gb_t b16] at h9; exact h9) | (rw [gb_f b16] at h9; exact h9)) (by omega)
  exact lp4 _ 0 0 (by omega) (by rfl) (Nat.lt_succ_self _)
set_option maxHeartbeats 4000000 in
set_option maxRecDepth 100000 in
theorem c_X2_tellMissing (l : Launch) (D : va_G) (cA : Nat → ClassId) (w0 : Int → Int) (w1 : Int → Int) (h0 : Int → Int) (h1 : Int → Int) (i : Int) (hsz : ∀ q : Int, (inR (w0 q) ∧ inR (w1 q)) ∧ inR (h0 q) ∧ inR (h1 q)) (hi : 0 ≤ i ∧ i < gsm (fun q => gb (gms w0 w1 q)) 20) :
    gC l D cA yX2_tellMissing mX2_tellMissing (some .int) 0 0 [gr 24, gi i] (pgW w0 w1 h0 h1) (fun r9 w9 => ∃ (pg : Int), r9 = some (gi (2 * pg + gb (0 < w0 pg))) ∧ w9 = pgW w0 w1 h0 h1 ∧ ((0 ≤ pg ∧ pg < 20) ∧ gms w0 w1 pg) ∧ (gsm (fun q => gb (gms w0 w1 q)) pg.toNat = i)) := by
  refine gC_of rfl kX2_tellMissing rfl rfl (Nat.le_of_ble_eq_true rfl) (fun X ad hX hE => ?_)
  refine G.go hX 4 (pgW w0 w1 h0 h1, 4, [(0, gr 24), (1, gi i), (2, gi i), (3, gi 0)], []) rfl trivial ?_
  have lp4 : ∀ (n : Nat) (lf : Int) (p : Int), (0 ≤ p ∧ p ≤ 20) → (lf = i - gsm (fun q => gb (gms w0 w1 q)) p.toNat) → (0 ≤ lf) → (20 - p).toNat < n → G X mX2_tellMissing ad 0 0 (pgW w0 w1 h0 h1, 4, [(0, gr 24), (1, gi i), (2, gi lf), (3, gi p)], []) := by
    intro n
    induction n with
    | zero => intro lf p hp hl hl0 hm9; exact absurd hm9 (Nat.not_lt_zero _)
    | succ n ih4 =>
      intro lf p hp hl hl0 hm4
      have hmo := gsm_gb (gms w0 w1) p.toNat
      have hi9 := gsm_gb (gms w0 w1) 20
      refine G.go hX 2 (pgW w0 w1 h0 h1, 7, [(0, gr 24), (1, gi i), (2, gi lf), (3, gi p)], [gi 20, gi p]) rfl trivial ?_
      refine g_icmp_ge hX 50 rfl rfl ⟨by omega, by omega⟩ ⟨by omega, by omega⟩ (fun b7 => ?_) (fun b7 => ?_)
      ·
        exfalso
        have h9 := show p = 20 by omega
        subst h9
        have : lf < 0 := by (rw [hl]; show i - gsm (fun q => gb (gms w0 w1 q)) 20 < 0; omega)
        omega
      ·
        refine G.go hX 2 (pgW w0 w1 h0 h1, 12, [(0, gr 24), (1, gi i), (2, gi lf), (3, gi p)], [gi p, gr 24]) rfl trivial ?_
        refine G.callV (av := [gi p]) (o := 24) (st := []) hX rfl (fun l D cA => c_X2_isMissing l D cA w0 w1 h0 h1 p (by first | assumption | omega) (by first | assumption | omega)) (by decide +kernel) aX2_isMissing rfl rfl rfl ⟨rfl, rfl⟩ (by decide) (Nat.le_of_ble_eq_true rfl) [0, 1, 2, 3, 4, 5, 6] [] [] rfl rfl rfl (fun r w' hp => ?_)
        obtain ⟨rfl, rfl⟩ := hp
        show G X mX2_tellMissing ad 0 0 (pgW w0 w1 h0 h1, 15, [(0, gr 24), (1, gi i), (2, gi lf), (3, gi p)], [gi (gb (gms w0 w1 p))])
        refine g_if_eq hX 44 rfl rfl (gb_r _) (fun b15 => ?_) (fun b15 => ?_)
        ·
          have b15 := gb_0.mp b15
          refine G.go hX 2 (pgW w0 w1 h0 h1, 4, [(0, gr 24), (1, gi i), (2, gi lf), (3, gi (p + 1))], []) rfl trivial ?_
          exact ih4 lf (p + 1) (by omega) (by have h9 := gsm_next (fun q => gb (gms w0 w1 q)) hp.1 rfl; rw [gb_f b15] at h9; omega) (by omega) (by omega)
        ·
          have b15 := gb_n0 b15
          refine G.go hX 1 (pgW w0 w1 h0 h1, 19, [(0, gr 24), (1, gi i), (2, gi lf), (3, gi p)], [gi lf]) rfl trivial ?_
          refine g_if_ne hX 41 rfl rfl ⟨by omega, by omega⟩ (fun b19 => ?_) (fun b19 => ?_)
          ·
            refine G.go hX 3 (pgW w0 w1 h0 h1, 4, [(0, gr 24), (1, gi i), (2, gi (lf + (-1))), (3, gi (p + 1))], []) rfl trivial ?_
            exact ih4 (lf + (-1)) (p + 1) (by omega) (by have h9 := gsm_next (fun q => gb (gms w0 w1 q)) hp.1 rfl; rw [gb_t b15] at h9; omega) (by omega) (by omega)
          ·
            refine G.go hX 6 (pgW w0 w1 h0 h1, 28, [(0, gr 24), (1, gi i), (2, gi lf), (3, gi p)], [gi p, gi 0, gr 24, gi (2 * p)]) rfl trivial ?_
            refine G.callV (av := [gi 0, gi p]) (o := 24) (st := [gi (2 * p)]) hX rfl (fun l D cA => c_X2_isThere_0 l D cA w0 w1 h0 h1 p (by first | assumption | omega) (by first | assumption | omega)) (by decide +kernel) aX2_isThere rfl rfl rfl ⟨rfl, rfl⟩ (by decide) (Nat.le_of_ble_eq_true rfl) [0, 1, 2, 3, 4, 5, 6] [] [] rfl rfl rfl (fun r w' hp => ?_)
            obtain ⟨rfl, rfl⟩ := hp
            show G X mX2_tellMissing ad 0 0 (pgW w0 w1 h0 h1, 31, [(0, gr 24), (1, gi i), (2, gi lf), (3, gi p)], [gi (gb (0 < w0 p)), gi (2 * p)])
            refine g_if_eq hX 38 rfl rfl (gb_r _) (fun b31 => ?_) (fun b31 => ?_)
            ·
              have b31 := gb_0.mp b31
              refine G.go hX 2 (pgW w0 w1 h0 h1, 40, [(0, gr 24), (1, gi i), (2, gi lf), (3, gi p)], [gi ((2 * p) + 0)]) rfl trivial ?_
              exact g_iret hX hE rfl ⟨p, by first | (rw [gb_t b31]) | (rw [gb_f b31]), rfl, ⟨⟨by omega, by omega⟩, b15⟩, by omega⟩
            ·
              have b31 := gb_n0 b31
              refine G.go hX 3 (pgW w0 w1 h0 h1, 40, [(0, gr 24), (1, gi i), (2, gi lf), (3, gi p)], [gi ((2 * p) + 1)]) rfl trivial ?_
              exact g_iret hX hE rfl ⟨p, by first | (rw [gb_t b31]) | (rw [gb_f b31]), rfl, ⟨⟨by omega, by omega⟩, b15⟩, by omega⟩
  exact lp4 _ i 0 (by omega) (by show i = i - 0; omega) (by omega) (Nat.lt_succ_self _)
