abbrev wsW0 (n0 : Int) (v0 x0 y0 o0 : Int → Int) : gW := [(11, gob 7 [gi n0, gr 12, gr 13, gr 14, gr 15]), (12, gai 0 40 v0), (13, gai 0 40 x0), (14, gai 0 40 y0), (15, gai 0 40 o0)]
abbrev wsW1 (n1 : Int) (v1 x1 y1 o1 : Int → Int) : gW := [(16, gob 7 [gi n1, gr 17, gr 18, gr 19, gr 20]), (17, gai 0 40 v1), (18, gai 0 40 x1), (19, gai 0 40 y1), (20, gai 0 40 o1)]
abbrev wbW (n0 : Int) (v0 x0 y0 o0 : Int → Int) (n1 : Int) (v1 x1 y1 o1 : Int → Int) : gW := [(11, gob 7 [gi n0, gr 12, gr 13, gr 14, gr 15]), (12, gai 0 40 v0), (13, gai 0 40 x0), (14, gai 0 40 y0), (15, gai 0 40 o0), (16, gob 7 [gi n1, gr 17, gr 18, gr 19, gr 20]), (17, gai 0 40 v1), (18, gai 0 40 x1), (19, gai 0 40 y1), (20, gai 0 40 o1)]
abbrev wrW (cn wst : Int) (rwx lg : Int → Int) (n0 : Int) (v0 x0 y0 o0 : Int → Int) (n1 : Int) (v1 x1 y1 o1 : Int → Int) : gW := [(21, gob 6 [gi cn, gi wst, gr 11, gr 16, gr 22, gr 23]), (22, gai 0 320 rwx), (23, gai 0 1681 lg), (11, gob 7 [gi n0, gr 12, gr 13, gr 14, gr 15]), (12, gai 0 40 v0), (13, gai 0 40 x0), (14, gai 0 40 y0), (15, gai 0 40 o0), (16, gob 7 [gi n1, gr 17, gr 18, gr 19, gr 20]), (17, gai 0 40 v1), (18, gai 0 40 x1), (19, gai 0 40 y1), (20, gai 0 40 o1)]
set_option maxHeartbeats 4000000 in
set_option maxRecDepth 100000 in
theorem c_X6_numberAt_0 (l : Launch) (D : va_G) (cA : Nat → ClassId) (n0 : Int) (v0 : Int → Int) (x0 : Int → Int) (y0 : Int → Int) (o0 : Int → Int) (p : Int) (hop : 0 ≤ p ∧ p < 40) :
    gC l D cA yX6_numberAt mX6_numberAt (some .int) 0 0 [gr 11, gi p] (wsW0 n0 v0 x0 y0 o0) (fun r9 w9 => r9 = some (gi (o0 p)) ∧ w9 = wsW0 n0 v0 x0 y0 o0) := by
  refine gC_of rfl kX6_numberAt rfl rfl (Nat.le_of_ble_eq_true rfl) (fun X ad hX hE => ?_)
  refine G.go hX 4 (wsW0 n0 v0 x0 y0 o0, 6, [(0, gr 11), (1, gi p)], [gi (o0 p)]) rfl ?_ ?_
  · refine ⟨?_, trivial⟩
    · omega
  exact g_iret hX hE rfl ⟨rfl, rfl⟩
set_option maxHeartbeats 4000000 in
set_option maxRecDepth 100000 in
theorem c_X6_valueAt_0 (l : Launch) (D : va_G) (cA : Nat → ClassId) (n0 : Int) (v0 : Int → Int) (x0 : Int → Int) (y0 : Int → Int) (o0 : Int → Int) (p : Int) (hop : 0 ≤ p ∧ p < 40 ∧ 0 ≤ o0 p ∧ o0 p < 40) :
    gC l D cA yX6_valueAt mX6_valueAt (some .int) 0 0 [gr 11, gi p] (wsW0 n0 v0 x0 y0 o0) (fun r9 w9 => r9 = some (gi (v0 (o0 p))) ∧ w9 = wsW0 n0 v0 x0 y0 o0) := by
  refine gC_of rfl kX6_valueAt rfl rfl (Nat.le_of_ble_eq_true rfl) (fun X ad hX hE => ?_)
  refine G.go hX 7 (wsW0 n0 v0 x0 y0 o0, 11, [(0, gr 11), (1, gi p)], [gi (v0 (o0 p))]) rfl ?_ ?_
  · refine ⟨?_, ?_, trivial⟩
    · omega
    · omega
  exact g_iret hX hE rfl ⟨rfl, rfl⟩
set_option maxHeartbeats 4000000 in
set_option maxRecDepth 100000 in
theorem c_X6_liesBehind_0 (l : Launch) (D : va_G) (cA : Nat → ClassId) (n0 : Int) (v0 : Int → Int) (x0 : Int → Int) (y0 : Int → Int) (o0 : Int → Int) (k : Int) (px : Int) (py : Int) (hk : 0 ≤ k ∧ k < 40) (hxy : ∀ q : Int, inR (x0 q) ∧ inR (y0 q)) (hpx : inR px) (hpy : inR py) :
    gC l D cA yX6_liesBehind mX6_liesBehind (some .boolean) 0 0 [gr 11, gi k, gi px, gi py] (wsW0 n0 v0 x0 y0 o0) (fun r9 w9 => r9 = some (gi (gb (wbh x0 y0 k px py))) ∧ w9 = wsW0 n0 v0 x0 y0 o0) := by
  refine gC_of rfl kX6_liesBehind rfl rfl (Nat.le_of_ble_eq_true rfl) (fun X ad hX hE => ?_)
  refine G.go hX 5 (wsW0 n0 v0 x0 y0 o0, 7, [(0, gr 11), (1, gi k), (2, gi px), (3, gi py)], [gi py, gi (y0 k)]) rfl ?_ ?_
  · refine ⟨?_, trivial⟩
    · omega
  refine g_icmp_eq hX 28 rfl rfl (by first | exact (hxy _).1 | exact (hxy _).2 | assumption) (by first | exact (hxy _).1 | exact (hxy _).2 | assumption) (fun b7 => ?_) (fun b7 => ?_)
  ·
    refine G.go hX 5 (wsW0 n0 v0 x0 y0 o0, 35, [(0, gr 11), (1, gi k), (2, gi px), (3, gi py)], [gi px, gi (x0 k)]) rfl ?_ ?_
    · refine ⟨?_, trivial⟩
      · omega
    refine g_icmp_le hX 42 rfl rfl (by first | exact (hxy _).1 | exact (hxy _).2 | assumption) (by first | exact (hxy _).1 | exact (hxy _).2 | assumption) (fun b35 => ?_) (fun b35 => ?_)
    ·
      refine G.go hX 1 (wsW0 n0 v0 x0 y0 o0, 43, [(0, gr 11), (1, gi k), (2, gi px), (3, gi py)], [gi 0]) rfl trivial ?_
      exact g_zret hX hE rfl (Or.inl rfl) ⟨(congrArg (fun z => some (gi z)) (gb_f (by unfold wbh; omega)).symm), rfl⟩
    ·
      refine G.go hX 2 (wsW0 n0 v0 x0 y0 o0, 43, [(0, gr 11), (1, gi k), (2, gi px), (3, gi py)], [gi 1]) rfl trivial ?_
      exact g_zret hX hE rfl (Or.inr rfl) ⟨(congrArg (fun z => some (gi z)) (gb_t (by unfold wbh; omega)).symm), rfl⟩
  ·
    refine G.go hX 5 (wsW0 n0 v0 x0 y0 o0, 17, [(0, gr 11), (1, gi k), (2, gi px), (3, gi py)], [gi py, gi (y0 k)]) rfl ?_ ?_
    · refine ⟨?_, trivial⟩
      · omega
    refine g_icmp_le hX 24 rfl rfl (by first | exact (hxy _).1 | exact (hxy _).2 | assumption) (by first | exact (hxy _).1 | exact (hxy _).2 | assumption) (fun b17 => ?_) (fun b17 => ?_)
    ·
      refine G.go hX 2 (wsW0 n0 v0 x0 y0 o0, 43, [(0, gr 11), (1, gi k), (2, gi px), (3, gi py)], [gi 0]) rfl trivial ?_
      exact g_zret hX hE rfl (Or.inl rfl) ⟨(congrArg (fun z => some (gi z)) (gb_f (by unfold wbh; omega)).symm), rfl⟩
    ·
      refine G.go hX 2 (wsW0 n0 v0 x0 y0 o0, 43, [(0, gr 11), (1, gi k), (2, gi px), (3, gi py)], [gi 1]) rfl trivial ?_
      exact g_zret hX hE rfl (Or.inr rfl) ⟨(congrArg (fun z => some (gi z)) (gb_t (by unfold wbh; omega)).symm), rfl⟩
set_option maxHeartbeats 4000000 in
set_option maxRecDepth 100000 in
theorem c_X6_add_0 (l : Launch) (D : va_G) (cA : Nat → ClassId) (n0 : Int) (v0 : Int → Int) (x0 : Int → Int) (y0 : Int → Int) (o0 : Int → Int) (va : Int) (px : Int) (py : Int) (hn : 0 ≤ n0 ∧ n0 < 40) (hxy : ∀ q : Int, inR (x0 q) ∧ inR (y0 q)) (hpx : inR px) (hpy : inR py) (hO : wOrd n0 x0 y0 o0) :
    gC l D cA yX6_add mX6_add (some .int) 0 0 [gr 11, gi va, gi px, gi py] (wsW0 n0 v0 x0 y0 o0) (fun r9 w9 => ∃ (ord2 : Int → Int), r9 = some (gi n0) ∧ w9 = wsW0 (n0 + 1) (gu v0 n0 va) (gu x0 n0 px) (gu y0 n0 py) ord2 ∧ (wOrd (n0 + 1) (gu x0 n0 px) (gu y0 n0 py) ord2)) := by
  refine gC_of rfl kX6_add rfl rfl (Nat.le_of_ble_eq_true rfl) (fun X ad hX hE => ?_)
  refine G.go hX 20 (wsW0 n0 (gu v0 n0 va) (gu x0 n0 px) (gu y0 n0 py) o0, 34, [(0, gr 11), (1, gi va), (2, gi px), (3, gi py), (4, gi n0), (5, gi n0)], []) rfl ?_ ?_
  · refine ⟨?_, ?_, ?_, trivial⟩
    · omega
    · omega
    · omega
  have lp34 : ∀ (n : Nat) (p : Int) (or1 : Int → Int), (wIn n0 (gu x0 n0 px) (gu y0 n0 py) o0 or1 px py p) → p.toNat < n → G X mX6_add ad 0 0 (wsW0 n0 (gu v0 n0 va) (gu x0 n0 px) (gu y0 n0 py) or1, 34, [(0, gr 11), (1, gi va), (2, gi px), (3, gi py), (4, gi n0), (5, gi p)], []) := by
    intro n
    induction n with
    | zero => intro p or1 hI hm9; exact absurd hm9 (Nat.not_lt_zero _)
    | succ n ih34 =>
      intro p or1 hI hm34
      have hI1 := hI.1
      refine G.go hX 1 (wsW0 n0 (gu v0 n0 va) (gu x0 n0 px) (gu y0 n0 py) or1, 36, [(0, gr 11), (1, gi va), (2, gi px), (3, gi py), (4, gi n0), (5, gi p)], [gi p]) rfl trivial ?_
      refine g_if_le hX 79 rfl rfl ⟨by omega, by omega⟩ (fun b36 => ?_) (fun b36 => ?_)
      ·
        refine G.go hX 12 (wsW0 (n0 + 1) (gu v0 n0 va) (gu x0 n0 px) (gu y0 n0 py) (gu or1 p n0), 100, [(0, gr 11), (1, gi va), (2, gi px), (3, gi py), (4, gi n0), (5, gi p)], [gi n0]) rfl ?_ ?_
        · refine ⟨?_, trivial⟩
          · omega
        exact g_iret hX hE rfl ⟨_, rfl, rfl, wOrd_ins hn.1 hO hI (by first | exact Or.inl (by omega) | exact Or.inr b54)⟩
      ·
        have he1 := hI.2.1 (p - 1) (by omega) (by omega)
        have he2 := hO.1 (p - 1) (by omega) (by omega)
        refine G.go hX 9 (wsW0 n0 (gu v0 n0 va) (gu x0 n0 px) (gu y0 n0 py) or1, 51, [(0, gr 11), (1, gi va), (2, gi px), (3, gi py), (4, gi n0), (5, gi p)], [gi py, gi px, gi (or1 (p - 1)), gr 11]) rfl ?_ ?_
        · refine ⟨?_, trivial⟩
          · omega
        refine G.callV (av := [gi (or1 (p - 1)), gi px, gi py]) (o := 11) (st := []) hX rfl (fun l D cA => c_X6_liesBehind_0 l D cA n0 (gu v0 n0 va) (gu x0 n0 px) (gu y0 n0 py) or1 (or1 (p - 1)) px py (by rw [he1]; omega) (fun q => ⟨gu_r (fun q => (hxy q).1) hpx q, gu_r (fun q => (hxy q).2) hpy q⟩) hpx hpy) (by decide +kernel) aX6_liesBehind rfl rfl rfl ⟨rfl, rfl⟩ (by decide) (Nat.le_of_ble_eq_true rfl) [0, 1, 2, 3, 4] [] [] rfl rfl rfl (fun r w' hp => ?_)
        obtain ⟨rfl, rfl⟩ := hp
        show G X mX6_add ad 0 0 (wsW0 n0 (gu v0 n0 va) (gu x0 n0 px) (gu y0 n0 py) or1, 54, [(0, gr 11), (1, gi va), (2, gi px), (3, gi py), (4, gi n0), (5, gi p)], [gi (gb (wbh (gu x0 n0 px) (gu y0 n0 py) (or1 (p - 1)) px py))])
        refine g_if_eq hX 79 rfl rfl (gb_r _) (fun b54 => ?_) (fun b54 => ?_)
        ·
          have b54 := gb_0.mp b54
          refine G.go hX 12 (wsW0 (n0 + 1) (gu v0 n0 va) (gu x0 n0 px) (gu y0 n0 py) (gu or1 p n0), 100, [(0, gr 11), (1, gi va), (2, gi px), (3, gi py), (4, gi n0), (5, gi p)], [gi n0]) rfl ?_ ?_
          · refine ⟨?_, trivial⟩
            · omega
          exact g_iret hX hE rfl ⟨_, rfl, rfl, wOrd_ins hn.1 hO hI (by first | exact Or.inl (by omega) | exact Or.inr b54)⟩
        ·
          have b54 := gb_n0 b54
          refine G.go hX 12 (wsW0 n0 (gu v0 n0 va) (gu x0 n0 px) (gu y0 n0 py) (gu or1 p (or1 (p - 1))), 34, [(0, gr 11), (1, gi va), (2, gi px), (3, gi py), (4, gi n0), (5, gi (p + (-1)))], []) rfl ?_ ?_
          · refine ⟨?_, ?_, trivial⟩
            · omega
            · omega
          exact ih34 (p + (-1)) (gu or1 p (or1 (p - 1))) (by exact wIn_step hI (by omega) b54) (by omega)
  exact lp34 _ n0 o0 (by exact ⟨by omega, fun _ _ _ => rfl, fun j _ _ => by omega, fun j _ _ => by omega⟩) (Nat.lt_succ_self _)
set_option maxHeartbeats 4000000 in
set_option maxRecDepth 100000 in
theorem c_X6_numberAt_1 (l : Launch) (D : va_G) (cA : Nat → ClassId) (n1 : Int) (v1 : Int → Int) (x1 : Int → Int) (y1 : Int → Int) (o1 : Int → Int) (p : Int) (hop : 0 ≤ p ∧ p < 40) :
    gC l D cA yX6_numberAt mX6_numberAt (some .int) 0 0 [gr 16, gi p] (wsW1 n1 v1 x1 y1 o1) (fun r9 w9 => r9 = some (gi (o1 p)) ∧ w9 = wsW1 n1 v1 x1 y1 o1) := by
  refine gC_of rfl kX6_numberAt rfl rfl (Nat.le_of_ble_eq_true rfl) (fun X ad hX hE => ?_)
  refine G.go hX 4 (wsW1 n1 v1 x1 y1 o1, 6, [(0, gr 16), (1, gi p)], [gi (o1 p)]) rfl ?_ ?_
  · refine ⟨?_, trivial⟩
    · omega
  exact g_iret hX hE rfl ⟨rfl, rfl⟩
set_option maxHeartbeats 4000000 in
set_option maxRecDepth 100000 in
theorem c_X6_valueAt_1 (l : Launch) (D : va_G) (cA : Nat → ClassId) (n1 : Int) (v1 : Int → Int) (x1 : Int → Int) (y1 : Int → Int) (o1 : Int → Int) (p : Int) (hop : 0 ≤ p ∧ p < 40 ∧ 0 ≤ o1 p ∧ o1 p < 40) :
    gC l D cA yX6_valueAt mX6_valueAt (some .int) 0 0 [gr 16, gi p] (wsW1 n1 v1 x1 y1 o1) (fun r9 w9 => r9 = some (gi (v1 (o1 p))) ∧ w9 = wsW1 n1 v1 x1 y1 o1) := by
  refine gC_of rfl kX6_valueAt rfl rfl (Nat.le_of_ble_eq_true rfl) (fun X ad hX hE => ?_)
  refine G.go hX 7 (wsW1 n1 v1 x1 y1 o1, 11, [(0, gr 16), (1, gi p)], [gi (v1 (o1 p))]) rfl ?_ ?_
  · refine ⟨?_, ?_, trivial⟩
    · omega
    · omega
  exact g_iret hX hE rfl ⟨rfl, rfl⟩
set_option maxHeartbeats 4000000 in
set_option maxRecDepth 100000 in
theorem c_X6_liesBehind_1 (l : Launch) (D : va_G) (cA : Nat → ClassId) (n1 : Int) (v1 : Int → Int) (x1 : Int → Int) (y1 : Int → Int) (o1 : Int → Int) (k : Int) (px : Int) (py : Int) (hk : 0 ≤ k ∧ k < 40) (hxy : ∀ q : Int, inR (x1 q) ∧ inR (y1 q)) (hpx : inR px) (hpy : inR py) :
    gC l D cA yX6_liesBehind mX6_liesBehind (some .boolean) 0 0 [gr 16, gi k, gi px, gi py] (wsW1 n1 v1 x1 y1 o1) (fun r9 w9 => r9 = some (gi (gb (wbh x1 y1 k px py))) ∧ w9 = wsW1 n1 v1 x1 y1 o1) := by
  refine gC_of rfl kX6_liesBehind rfl rfl (Nat.le_of_ble_eq_true rfl) (fun X ad hX hE => ?_)
  refine G.go hX 5 (wsW1 n1 v1 x1 y1 o1, 7, [(0, gr 16), (1, gi k), (2, gi px), (3, gi py)], [gi py, gi (y1 k)]) rfl ?_ ?_
  · refine ⟨?_, trivial⟩
    · omega
  refine g_icmp_eq hX 28 rfl rfl (by first | exact (hxy _).1 | exact (hxy _).2 | assumption) (by first | exact (hxy _).1 | exact (hxy _).2 | assumption) (fun b7 => ?_) (fun b7 => ?_)
  ·
    refine G.go hX 5 (wsW1 n1 v1 x1 y1 o1, 35, [(0, gr 16), (1, gi k), (2, gi px), (3, gi py)], [gi px, gi (x1 k)]) rfl ?_ ?_
    · refine ⟨?_, trivial⟩
      · omega
    refine g_icmp_le hX 42 rfl rfl (by first | exact (hxy _).1 | exact (hxy _).2 | assumption) (by first | exact (hxy _).1 | exact (hxy _).2 | assumption) (fun b35 => ?_) (fun b35 => ?_)
    ·
      refine G.go hX 1 (wsW1 n1 v1 x1 y1 o1, 43, [(0, gr 16), (1, gi k), (2, gi px), (3, gi py)], [gi 0]) rfl trivial ?_
      exact g_zret hX hE rfl (Or.inl rfl) ⟨(congrArg (fun z => some (gi z)) (gb_f (by unfold wbh; omega)).symm), rfl⟩
    ·
      refine G.go hX 2 (wsW1 n1 v1 x1 y1 o1, 43, [(0, gr 16), (1, gi k), (2, gi px), (3, gi py)], [gi 1]) rfl trivial ?_
      exact g_zret hX hE rfl (Or.inr rfl) ⟨(congrArg (fun z => some (gi z)) (gb_t (by unfold wbh; omega)).symm), rfl⟩
  ·
    refine G.go hX 5 (wsW1 n1 v1 x1 y1 o1, 17, [(0, gr 16), (1, gi k), (2, gi px), (3, gi py)], [gi py, gi (y1 k)]) rfl ?_ ?_
    · refine ⟨?_, trivial⟩
      · omega
    refine g_icmp_le hX 24 rfl rfl (by first | exact (hxy _).1 | exact (hxy _).2 | assumption) (by first | exact (hxy _).1 | exact (hxy _).2 | assumption) (fun b17 => ?_) (fun b17 => ?_)
    ·
      refine G.go hX 2 (wsW1 n1 v1 x1 y1 o1, 43, [(0, gr 16), (1, gi k), (2, gi px), (3, gi py)], [gi 0]) rfl trivial ?_
      exact g_zret hX hE rfl (Or.inl rfl) ⟨(congrArg (fun z => some (gi z)) (gb_f (by unfold wbh; omega)).symm), rfl⟩
    ·
      refine G.go hX 2 (wsW1 n1 v1 x1 y1 o1, 43, [(0, gr 16), (1, gi k), (2, gi px), (3, gi py)], [gi 1]) rfl trivial ?_
      exact g_zret hX hE rfl (Or.inr rfl) ⟨(congrArg (fun z => some (gi z)) (gb_t (by unfold wbh; omega)).symm), rfl⟩
set_option maxHeartbeats 4000000 in
set_option maxRecDepth 100000 in
theorem c_X6_add_1 (l : Launch) (D : va_G) (cA : Nat → ClassId) (n1 : Int) (v1 : Int → Int) (x1 : Int → Int) (y1 : Int → Int) (o1 : Int → Int) (va : Int) (px : Int) (py : Int) (hn : 0 ≤ n1 ∧ n1 < 40) (hxy : ∀ q : Int, inR (x1 q) ∧ inR (y1 q)) (hpx : inR px) (hpy : inR py) (hO : wOrd n1 x1 y1 o1) :
    gC l D cA yX6_add mX6_add (some .int) 0 0 [gr 16, gi va, gi px, gi py] (wsW1 n1 v1 x1 y1 o1) (fun r9 w9 => ∃ (ord2 : Int → Int), r9 = some (gi n1) ∧ w9 = wsW1 (n1 + 1) (gu v1 n1 va) (gu x1 n1 px) (gu y1 n1 py) ord2 ∧ (wOrd (n1 + 1) (gu x1 n1 px) (gu y1 n1 py) ord2)) := by
  refine gC_of rfl kX6_add rfl rfl (Nat.le_of_ble_eq_true rfl) (fun X ad hX hE => ?_)
  refine G.go hX 20 (wsW1 n1 (gu v1 n1 va) (gu x1 n1 px) (gu y1 n1 py) o1, 34, [(0, gr 16), (1, gi va), (2, gi px), (3, gi py), (4, gi n1), (5, gi n1)], []) rfl ?_ ?_
  · refine ⟨?_, ?_, ?_, trivial⟩
    · omega
    · omega
    · omega
  have lp34 : ∀ (n : Nat) (p : Int) (or1 : Int → Int), (wIn n1 (gu x1 n1 px) (gu y1 n1 py) o1 or1 px py p) → p.toNat < n → G X mX6_add ad 0 0 (wsW1 n1 (gu v1 n1 va) (gu x1 n1 px) (gu y1 n1 py) or1, 34, [(0, gr 16), (1, gi va), (2, gi px), (3, gi py), (4, gi n1), (5, gi p)], []) := by
    intro n
    induction n with
    | zero => intro p or1 hI hm9; exact absurd hm9 (Nat.not_lt_zero _)
    | succ n ih34 =>
      intro p or1 hI hm34
      have hI1 := hI.1
      refine G.go hX 1 (wsW1 n1 (gu v1 n1 va) (gu x1 n1 px) (gu y1 n1 py) or1, 36, [(0, gr 16), (1, gi va), (2, gi px), (3, gi py), (4, gi n1), (5, gi p)], [gi p]) rfl trivial ?_
      refine g_if_le hX 79 rfl rfl ⟨by omega, by omega⟩ (fun b36 => ?_) (fun b36 => ?_)
      ·
        refine G.go hX 12 (wsW1 (n1 + 1) (gu v1 n1 va) (gu x1 n1 px) (gu y1 n1 py) (gu or1 p n1), 100, [(0, gr 16), (1, gi va), (2, gi px), (3, gi py), (4, gi n1), (5, gi p)], [gi n1]) rfl ?_ ?_
        · refine ⟨?_, trivial⟩
          · omega
        exact g_iret hX hE rfl ⟨_, rfl, rfl, wOrd_ins hn.1 hO hI (by first | exact Or.inl (by omega) | exact Or.inr b54)⟩
      ·
        have he1 := hI.2.1 (p - 1) (by omega) (by omega)
        have he2 := hO.1 (p - 1) (by omega) (by omega)
        refine G.go hX 9 (wsW1 n1 (gu v1 n1 va) (gu x1 n1 px) (gu y1 n1 py) or1, 51, [(0, gr 16), (1, gi va), (2, gi px), (3, gi py), (4, gi n1), (5, gi p)], [gi py, gi px, gi (or1 (p - 1)), gr 16]) rfl ?_ ?_
        · refine ⟨?_, trivial⟩
          · omega
        refine G.callV (av := [gi (or1 (p - 1)), gi px, gi py]) (o := 16) (st := []) hX rfl (fun l D cA => c_X6_liesBehind_1 l D cA n1 (gu v1 n1 va) (gu x1 n1 px) (gu y1 n1 py) or1 (or1 (p - 1)) px py (by rw [he1]; omega) (fun q => ⟨gu_r (fun q => (hxy q).1) hpx q, gu_r (fun q => (hxy q).2) hpy q⟩) hpx hpy) (by decide +kernel) aX6_liesBehind rfl rfl rfl ⟨rfl, rfl⟩ (by decide) (Nat.le_of_ble_eq_true rfl) [0, 1, 2, 3, 4] [] [] rfl rfl rfl (fun r w' hp => ?_)
        obtain ⟨rfl, rfl⟩ := hp
        show G X mX6_add ad 0 0 (wsW1 n1 (gu v1 n1 va) (gu x1 n1 px) (gu y1 n1 py) or1, 54, [(0, gr 16), (1, gi va), (2, gi px), (3, gi py), (4, gi n1), (5, gi p)], [gi (gb (wbh (gu x1 n1 px) (gu y1 n1 py) (or1 (p - 1)) px py))])
        refine g_if_eq hX 79 rfl rfl (gb_r _) (fun b54 => ?_) (fun b54 => ?_)
        ·
          have b54 := gb_0.mp b54
          refine G.go hX 12 (wsW1 (n1 + 1) (gu v1 n1 va) (gu x1 n1 px) (gu y1 n1 py) (gu or1 p n1), 100, [(0, gr 16), (1, gi va), (2, gi px), (3, gi py), (4, gi n1), (5, gi p)], [gi n1]) rfl ?_ ?_
          · refine ⟨?_, trivial⟩
            · omega
          exact g_iret hX hE rfl ⟨_, rfl, rfl, wOrd_ins hn.1 hO hI (by first | exact Or.inl (by omega) | exact Or.inr b54)⟩
        ·
          have b54 := gb_n0 b54
          refine G.go hX 12 (wsW1 n1 (gu v1 n1 va) (gu x1 n1 px) (gu y1 n1 py) (gu or1 p (or1 (p - 1))), 34, [(0, gr 16), (1, gi va), (2, gi px), (3, gi py), (4, gi n1), (5, gi (p + (-1)))], []) rfl ?_ ?_
          · refine ⟨?_, ?_, trivial⟩
            · omega
            · omega
          exact ih34 (p + (-1)) (gu or1 p (or1 (p - 1))) (by exact wIn_step hI (by omega) b54) (by omega)
  exact lp34 _ n1 o1 (by exact ⟨by omega, fun _ _ _ => rfl, fun j _ _ => by omega, fun j _ _ => by omega⟩) (Nat.lt_succ_self _)
set_option maxHeartbeats 4000000 in
set_option maxRecDepth 100000 in
theorem c_X6_isSamePlace (l : Launch) (D : va_G) (cA : Nat → ClassId) (n0 : Int) (v0 : Int → Int) (x0 : Int → Int) (y0 : Int → Int) (o0 : Int → Int) (n1 : Int) (v1 : Int → Int) (x1 : Int → Int) (y1 : Int → Int) (o1 : Int → Int) (a : Int) (b : Int) (ha : 0 ≤ a ∧ a < 40 ∧ 0 ≤ o0 a ∧ o0 a < 40) (hb : 0 ≤ b ∧ b < 40 ∧ 0 ≤ o1 b ∧ o1 b < 40) (hxy : ∀ q : Int, (inR (x0 q) ∧ inR (x1 q)) ∧ inR (y0 q) ∧ inR (y1 q)) :
    gC l D cA yX6_isSamePlace mX6_isSamePlace (some .boolean) 0 0 [gr 11, gi a, gr 16, gi b] (wbW n0 v0 x0 y0 o0 n1 v1 x1 y1 o1) (fun r9 w9 => r9 = some (gi (gb (x0 (o0 a) = x1 (o1 b) ∧ y0 (o0 a) = y1 (o1 b)))) ∧ w9 = wbW n0 v0 x0 y0 o0 n1 v1 x1 y1 o1) := by
  refine gC_of rfl kX6_isSamePlace rfl rfl (Nat.le_of_ble_eq_true rfl) (fun X ad hX hE => ?_)
  refine G.go hX 18 (wbW n0 v0 x0 y0 o0 n1 v1 x1 y1 o1, 30, [(0, gr 11), (1, gi a), (2, gr 16), (3, gi b), (4, gi (o0 a)), (5, gi (o1 b))], [gi (x1 (o1 b)), gi (x0 (o0 a))]) rfl ?_ ?_
  · refine ⟨?_, ?_, ?_, ?_, trivial⟩
    · omega
    · omega
    · omega
    · omega
  refine g_icmp_ne hX 54 rfl rfl (by first | exact (hxy _).1.1 | exact (hxy _).1.2) (by first | exact (hxy _).1.1 | exact (hxy _).1.2) (fun b30 => ?_) (fun b30 => ?_)
  ·
    refine G.go hX 1 (wbW n0 v0 x0 y0 o0 n1 v1 x1 y1 o1, 55, [(0, gr 11), (1, gi a), (2, gr 16), (3, gi b), (4, gi (o0 a)), (5, gi (o1 b))], [gi 0]) rfl trivial ?_
    exact g_zret hX hE rfl (Or.inl rfl) ⟨(congrArg (fun z => some (gi z)) (gb_f (by omega)).symm), rfl⟩
  ·
    refine G.go hX 8 (wbW n0 v0 x0 y0 o0 n1 v1 x1 y1 o1, 47, [(0, gr 11), (1, gi a), (2, gr 16), (3, gi b), (4, gi (o0 a)), (5, gi (o1 b))], [gi (y1 (o1 b)), gi (y0 (o0 a))]) rfl ?_ ?_
    · refine ⟨?_, ?_, trivial⟩
      · omega
      · omega
    refine g_icmp_ne hX 54 rfl rfl (by first | exact (hxy _).2.1 | exact (hxy _).2.2) (by first | exact (hxy _).2.1 | exact (hxy _).2.2) (fun b47 => ?_) (fun b47 => ?_)
    ·
      refine G.go hX 1 (wbW n0 v0 x0 y0 o0 n1 v1 x1 y1 o1, 55, [(0, gr 11), (1, gi a), (2, gr 16), (3, gi b), (4, gi (o0 a)), (5, gi (o1 b))], [gi 0]) rfl trivial ?_
      exact g_zret hX hE rfl (Or.inl rfl) ⟨(congrArg (fun z => some (gi z)) (gb_f (by omega)).symm), rfl⟩
    ·
      refine G.go hX 2 (wbW n0 v0 x0 y0 o0 n1 v1 x1 y1 o1, 55, [(0, gr 11), (1, gi a), (2, gr 16), (3, gi b), (4, gi (o0 a)), (5, gi (o1 b))], [gi 1]) rfl trivial ?_
      exact g_zret hX hE rfl (Or.inr rfl) ⟨(congrArg (fun z => some (gi z)) (gb_t (by omega)).symm), rfl⟩
