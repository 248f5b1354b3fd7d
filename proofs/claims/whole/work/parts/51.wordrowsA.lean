set_option maxHeartbeats 4000000 in
set_option maxRecDepth 100000 in
theorem c_X5_tell (l : Launch) (D : va_G) (cA : Nat → ClassId) (cn : Int) (wst : Int) (rwx : Int → Int) (lg : Int → Int) (n0 : Int) (v0 : Int → Int) (x0 : Int → Int) (y0 : Int → Int) (o0 : Int → Int) (n1 : Int) (v1 : Int → Int) (x1 : Int → Int) (y1 : Int → Int) (o1 : Int → Int) (i : Int) (k : Int) (hi : 0 ≤ i * 4 + k ∧ i * 4 + k < 320) :
    gC l D cA yX5_tell mX5_tell (some .int) 0 0 [gr 21, gi i, gi k] (wrW cn wst rwx lg n0 v0 x0 y0 o0 n1 v1 x1 y1 o1) (fun r9 w9 => r9 = some (gi (rwx (i * 4 + k))) ∧ w9 = wrW cn wst rwx lg n0 v0 x0 y0 o0 n1 v1 x1 y1 o1) := by
  refine gC_of rfl kX5_tell rfl rfl (Nat.le_of_ble_eq_true rfl) (fun X ad hX hE => ?_)
  refine G.go hX 8 (wrW cn wst rwx lg n0 v0 x0 y0 o0 n1 v1 x1 y1 o1, 10, [(0, gr 21), (1, gi i), (2, gi k)], [gi (rwx ((i * 4) + k))]) rfl ?_ ?_
  · refine ⟨?_, trivial⟩
    · omega
  exact g_iret hX hE rfl ⟨(congrArg (fun z => some (gi z)) (by first | rfl | (omega))), rfl⟩
set_option maxHeartbeats 4000000 in
set_option maxRecDepth 100000 in
theorem c_X5_append (l : Launch) (D : va_G) (cA : Nat → ClassId) (cn : Int) (wst : Int) (rwx : Int → Int) (lg : Int → Int) (n0 : Int) (v0 : Int → Int) (x0 : Int → Int) (y0 : Int → Int) (o0 : Int → Int) (n1 : Int) (v1 : Int → Int) (x1 : Int → Int) (y1 : Int → Int) (o1 : Int → Int) (k : Int) (w : Int) (p : Int) (q : Int) (hcn : 0 ≤ cn ∧ cn < 80) :
    gC l D cA yX5_append mX5_append none 0 0 [gr 21, gi k, gi w, gi p, gi q] (wrW cn wst rwx lg n0 v0 x0 y0 o0 n1 v1 x1 y1 o1) (fun r9 w9 => r9 = none ∧ w9 = wrW (cn + 1) wst (wap rwx cn k w p q) lg n0 v0 x0 y0 o0 n1 v1 x1 y1 o1) := by
  refine gC_of rfl kX5_append rfl rfl (Nat.le_of_ble_eq_true rfl) (fun X ad hX hE => ?_)
  refine G.go hX 3 (wrW cn wst rwx lg n0 v0 x0 y0 o0 n1 v1 x1 y1 o1, 6, [(0, gr 21), (1, gi k), (2, gi w), (3, gi p), (4, gi q)], [gi 80, gi cn]) rfl trivial ?_
  refine g_icmp_ge hX 68 rfl rfl ⟨by omega, by omega⟩ ⟨by omega, by omega⟩ (fun b6 => ?_) (fun b6 => ?_)
  ·
    exfalso
    omega
  ·
    refine G.go hX 39 (wrW (cn + 1) wst (gu (gu (gu (gu rwx ((cn * 4) + 0) k) ((cn * 4) + 1) w) ((cn * 4) + 2) p) ((cn * 4) + 3) q) lg n0 v0 x0 y0 o0 n1 v1 x1 y1 o1, 68, [(0, gr 21), (1, gi k), (2, gi w), (3, gi p), (4, gi q), (5, gi (cn * 4))], []) rfl ?_ ?_
    · refine ⟨?_, ?_, ?_, ?_, trivial⟩
      · omega
      · omega
      · omega
      · omega
    exact g_vret hX hE rfl ⟨rfl, (by first | rfl | (omega))⟩
set_option maxHeartbeats 4000000 in
set_option maxRecDepth 100000 in
theorem c_X5_countKind (l : Launch) (D : va_G) (cA : Nat → ClassId) (cn : Int) (wst : Int) (rwx : Int → Int) (lg : Int → Int) (n0 : Int) (v0 : Int → Int) (x0 : Int → Int) (y0 : Int → Int) (o0 : Int → Int) (n1 : Int) (v1 : Int → Int) (x1 : Int → Int) (y1 : Int → Int) (o1 : Int → Int) (k : Int) (hcn : 0 ≤ cn ∧ cn ≤ 80) (hrw : ∀ q : Int, inR (rwx q)) (hk : inR k) :
    gC l D cA yX5_countKind mX5_countKind (some .int) 0 0 [gr 21, gi k] (wrW cn wst rwx lg n0 v0 x0 y0 o0 n1 v1 x1 y1 o1) (fun r9 w9 => r9 = some (gi (gsm (fun q => gb (rwx (q * 4 + 0) = k)) cn.toNat)) ∧ w9 = wrW cn wst rwx lg n0 v0 x0 y0 o0 n1 v1 x1 y1 o1) := by
  refine gC_of rfl kX5_countKind rfl rfl (Nat.le_of_ble_eq_true rfl) (fun X ad hX hE => ?_)
  refine G.go hX 4 (wrW cn wst rwx lg n0 v0 x0 y0 o0 n1 v1 x1 y1 o1, 4, [(0, gr 21), (1, gi k), (2, gi 0), (3, gi 0)], []) rfl trivial ?_
  have lp4 : ∀ (n : Nat) (f1 : Int) (i : Int), (0 ≤ i ∧ i ≤ cn) → (f1 = gsm (fun q => gb (rwx (q * 4 + 0) = k)) i.toNat) → (cn - i).toNat < n → G X mX5_countKind ad 0 0 (wrW cn wst rwx lg n0 v0 x0 y0 o0 n1 v1 x1 y1 o1, 4, [(0, gr 21), (1, gi k), (2, gi f1), (3, gi i)], []) := by
    intro n
    induction n with
    | zero => intro f1 i hi hf hm9; exact absurd hm9 (Nat.not_lt_zero _)
    | succ n ih4 =>
      intro f1 i hi hf hm4
      refine G.go hX 3 (wrW cn wst rwx lg n0 v0 x0 y0 o0 n1 v1 x1 y1 o1, 9, [(0, gr 21), (1, gi k), (2, gi f1), (3, gi i)], [gi cn, gi i]) rfl trivial ?_
      refine g_icmp_ge hX 36 rfl rfl ⟨by omega, by omega⟩ ⟨by omega, by omega⟩ (fun b9 => ?_) (fun b9 => ?_)
      ·
        refine G.go hX 1 (wrW cn wst rwx lg n0 v0 x0 y0 o0 n1 v1 x1 y1 o1, 37, [(0, gr 21), (1, gi k), (2, gi f1), (3, gi i)], [gi f1]) rfl trivial ?_
        exact g_iret hX hE rfl ⟨(congrArg (fun z => some (gi z)) (by first | rfl | (rw [hf, show i = cn by omega]))), rfl⟩
      ·
        refine G.go hX 4 (wrW cn wst rwx lg n0 v0 x0 y0 o0 n1 v1 x1 y1 o1, 16, [(0, gr 21), (1, gi k), (2, gi f1), (3, gi i)], [gi 0, gi i, gr 21, gi f1]) rfl trivial ?_
        refine G.callV (av := [gi i, gi 0]) (o := 21) (st := [gi f1]) hX rfl (fun l D cA => c_X5_tell l D cA cn wst rwx lg n0 v0 x0 y0 o0 n1 v1 x1 y1 o1 i 0 (by first | assumption | omega)) (by decide +kernel) aX5_tell rfl rfl rfl ⟨rfl, rfl⟩ (by decide) (Nat.le_of_ble_eq_true rfl) [0, 1, 2, 3, 4, 5, 6, 7, 8, 9, 10, 11, 12] [] [] rfl rfl rfl (fun r w' hp => ?_)
        obtain ⟨rfl, rfl⟩ := hp
        show G X mX5_countKind ad 0 0 (wrW cn wst rwx lg n0 v0 x0 y0 o0 n1 v1 x1 y1 o1, 19, [(0, gr 21), (1, gi k), (2, gi f1), (3, gi i)], [gi (rwx (i * 4 + 0)), gi f1])
        refine G.go hX 1 (wrW cn wst rwx lg n0 v0 x0 y0 o0 n1 v1 x1 y1 o1, 20, [(0, gr 21), (1, gi k), (2, gi f1), (3, gi i)], [gi k, gi (rwx (i * 4 + 0)), gi f1]) rfl trivial ?_
        refine g_icmp_ne hX 27 rfl rfl (by first | exact hrw _ | assumption) (by first | exact hrw _ | assumption) (fun b20 => ?_) (fun b20 => ?_)
        ·
          refine G.go hX 5 (wrW cn wst rwx lg n0 v0 x0 y0 o0 n1 v1 x1 y1 o1, 4, [(0, gr 21), (1, gi k), (2, gi (f1 + 0)), (3, gi (i + 1))], []) rfl trivial ?_
          exact ih4 (f1 + 0) (i + 1) (by omega) (by have h9 := gsm_next (fun q => gb (rwx (q * 4 + 0) = k)) hi.1 hf; first | (rw [gb_t (by omega)] at h9; exact h9) | (rw [gb_f (by omega)] at h9; exact h9)) (by omega)
        ·
          refine G.go hX 6 (wrW cn wst rwx lg n0 v0 x0 y0 o0 n1 v1 x1 y1 o1, 4, [(0, gr 21), (1, gi k), (2, gi (f1 + 1)), (3, gi (i + 1))], []) rfl trivial ?_
          exact ih4 (f1 + 1) (i + 1) (by omega) (by have h9 := gsm_next (fun q => gb (rwx (q * 4 + 0) = k)) hi.1 hf; first | (rw [gb_t (by omega)] at h9; exact h9) | (rw [gb_f (by omega)] at h9; exact h9)) (by omega)
  exact lp4 _ 0 0 (by omega) (by rfl) (Nat.lt_succ_self _)
set_option maxHeartbeats 4000000 in
set_option maxRecDepth 100000 in
theorem c_X5_measureAt (l : Launch) (D : va_G) (cA : Nat → ClassId) (cn : Int) (wst : Int) (rwx : Int → Int) (lg : Int → Int) (n0 : Int) (v0 : Int → Int) (x0 : Int → Int) (y0 : Int → Int) (o0 : Int → Int) (n1 : Int) (v1 : Int → Int) (x1 : Int → Int) (y1 : Int → Int) (o1 : Int → Int) (a : Int) (b : Int) (hn : (0 ≤ n0 ∧ n0 ≤ 40) ∧ 0 ≤ n1 ∧ n1 ≤ 40) (ho0 : ∀ j, 0 ≤ j → j < n0 → 0 ≤ o0 j ∧ o0 j < n0) (ho1 : ∀ j, 0 ≤ j → j < n1 → 0 ≤ o1 j ∧ o1 j < n1) (hv : ∀ q : Int, inR (v0 q) ∧ inR (v1 q)) (ha : 0 ≤ a ∧ a ≤ n0) (hb : 0 ≤ b ∧ b ≤ n1) (hL : wLp n0 n1 (fun j => v0 (o0 j)) (fun j => v1 (o1 j)) lg a b) :
    gC l D cA yX5_measureAt mX5_measureAt (some .int) 0 0 [gr 21, gi a, gi b] (wrW cn wst rwx lg n0 v0 x0 y0 o0 n1 v1 x1 y1 o1) (fun r9 w9 => r9 = some (gi (wLv n0 n1 (fun j => v0 (o0 j)) (fun j => v1 (o1 j)) (fun a b => lg (a * 41 + b)) a b)) ∧ w9 = wrW cn wst rwx lg n0 v0 x0 y0 o0 n1 v1 x1 y1 o1) := by
  refine gC_of rfl kX5_measureAt rfl rfl (Nat.le_of_ble_eq_true rfl) (fun X ad hX hE => ?_)
  refine G.go hX 4 (wrW cn wst rwx lg n0 v0 x0 y0 o0 n1 v1 x1 y1 o1, 8, [(0, gr 21), (1, gi a), (2, gi b)], [gi n0, gi a]) rfl trivial ?_
  refine g_icmp_ge hX 22 rfl rfl ⟨by omega, by omega⟩ ⟨by omega, by omega⟩ (fun b8 => ?_) (fun b8 => ?_)
  ·
    refine G.go hX 1 (wrW cn wst rwx lg n0 v0 x0 y0 o0 n1 v1 x1 y1 o1, 23, [(0, gr 21), (1, gi a), (2, gi b)], [gi 0]) rfl trivial ?_
    exact g_iret hX hE rfl ⟨(congrArg (fun z => some (gi z)) (by first | rfl | (unfold wLv; rw [if_pos (by omega)]))), rfl⟩
  ·
    refine G.go hX 4 (wrW cn wst rwx lg n0 v0 x0 y0 o0 n1 v1 x1 y1 o1, 19, [(0, gr 21), (1, gi a), (2, gi b)], [gi n1, gi b]) rfl trivial ?_
    refine g_icmp_lt hX 24 rfl rfl ⟨by omega, by omega⟩ ⟨by omega, by omega⟩ (fun b19 => ?_) (fun b19 => ?_)
    ·
      have e0 := ho0 a (by omega) (by omega)
      have e1 := ho1 b (by omega) (by omega)
      refine G.go hX 3 (wrW cn wst rwx lg n0 v0 x0 y0 o0 n1 v1 x1 y1 o1, 29, [(0, gr 21), (1, gi a), (2, gi b)], [gi a, gr 11]) rfl trivial ?_
      refine G.callV (av := [gi a]) (o := 11) (st := []) hX rfl (fun l D cA => c_X6_valueAt_0 l D cA n0 v0 x0 y0 o0 a ⟨by omega, by omega, by omega, by omega⟩) (by decide +kernel) aX6_valueAt rfl rfl rfl ⟨rfl, rfl⟩ (by decide) (Nat.le_of_ble_eq_true rfl) [3, 4, 5, 6, 7] [0, 1, 2, 8, 9, 10, 11, 12] [(21, gob 6 [gi cn, gi wst, gr 11, gr 16, gr 22, gr 23]), (22, gai 0 320 rwx), (23, gai 0 1681 lg), (16, gob 7 [gi n1, gr 17, gr 18, gr 19, gr 20]), (17, gai 0 40 v1), (18, gai 0 40 x1), (19, gai 0 40 y1), (20, gai 0 40 o1)] rfl rfl rfl (fun r w' hp => ?_)
      obtain ⟨rfl, rfl⟩ := hp
      refine G.perm (wrW cn wst rwx lg n0 v0 x0 y0 o0 n1 v1 x1 y1 o1) [0, 1, 2, 8, 9, 10, 11, 12, 3, 4, 5, 6, 7] rfl rfl ?_
      show G X mX5_measureAt ad 0 0 (wrW cn wst rwx lg n0 v0 x0 y0 o0 n1 v1 x1 y1 o1, 32, [(0, gr 21), (1, gi a), (2, gi b)], [gi (v0 (o0 a))])
      refine G.go hX 3 (wrW cn wst rwx lg n0 v0 x0 y0 o0 n1 v1 x1 y1 o1, 37, [(0, gr 21), (1, gi a), (2, gi b)], [gi b, gr 16, gi (v0 (o0 a))]) rfl trivial ?_
      refine G.callV (av := [gi b]) (o := 16) (st := [gi (v0 (o0 a))]) hX rfl (fun l D cA => c_X6_valueAt_1 l D cA n1 v1 x1 y1 o1 b ⟨by omega, by omega, by omega, by omega⟩) (by decide +kernel) aX6_valueAt rfl rfl rfl ⟨rfl, rfl⟩ (by decide) (Nat.le_of_ble_eq_true rfl) [8, 9, 10, 11, 12] [0, 1, 2, 3, 4, 5, 6, 7] [(21, gob 6 [gi cn, gi wst, gr 11, gr 16, gr 22, gr 23]), (22, gai 0 320 rwx), (23, gai 0 1681 lg), (11, gob 7 [gi n0, gr 12, gr 13, gr 14, gr 15]), (12, gai 0 40 v0), (13, gai 0 40 x0), (14, gai 0 40 y0), (15, gai 0 40 o0)] rfl rfl rfl (fun r w' hp => ?_)
      obtain ⟨rfl, rfl⟩ := hp
      refine G.perm (wrW cn wst rwx lg n0 v0 x0 y0 o0 n1 v1 x1 y1 o1) [0, 1, 2, 3, 4, 5, 6, 7, 8, 9, 10, 11, 12] rfl rfl ?_
      show G X mX5_measureAt ad 0 0 (wrW cn wst rwx lg n0 v0 x0 y0 o0 n1 v1 x1 y1 o1, 40, [(0, gr 21), (1, gi a), (2, gi b)], [gi (v1 (o1 b)), gi (v0 (o0 a))])
      refine g_icmp_ne hX 61 rfl rfl (by first | exact (hv _).1 | exact (hv _).2) (by first | exact (hv _).1 | exact (hv _).2) (fun b40 => ?_) (fun b40 => ?_)
      ·
        refine G.go hX 20 (wrW cn wst rwx lg n0 v0 x0 y0 o0 n1 v1 x1 y1 o1, 87, [(0, gr 21), (1, gi a), (2, gi b)], [gi (lg (((a * 41) + b) + 1)), gi (lg (((a + 1) * 41) + b))]) rfl ?_ ?_
        · refine ⟨?_, ?_, trivial⟩
          · omega
          · omega
        refine g_mmax hX rfl (by decide +kernel) ⟨⟨by decide, Nat.le_of_ble_eq_true rfl⟩, by decide, by decide⟩ (by first | (have h9 := hL (a + 1) b (by omega) (by omega) (by omega) (by omega) (by omega); exact ⟨by omega, by omega⟩) | (have h9 := hL a (b + 1) (by omega) (by omega) (by omega) (by omega) (by omega); rw [show a * 41 + b + 1 = a * 41 + (b + 1) by omega]; exact ⟨by omega, by omega⟩)) (by first | (have h9 := hL (a + 1) b (by omega) (by omega) (by omega) (by omega) (by omega); exact ⟨by omega, by omega⟩) | (have h9 := hL a (b + 1) (by omega) (by omega) (by omega) (by omega) (by omega); rw [show a * 41 + b + 1 = a * 41 + (b + 1) by omega]; exact ⟨by omega, by omega⟩)) ?_
        show G X mX5_measureAt ad 0 0 (wrW cn wst rwx lg n0 v0 x0 y0 o0 n1 v1 x1 y1 o1, 90, [(0, gr 21), (1, gi a), (2, gi b)], [gi (max (lg (((a + 1) * 41) + b)) (lg (((a * 41) + b) + 1)))])
        exact g_iret hX hE rfl ⟨(congrArg (fun z => some (gi z)) (by first | rfl | (unfold wLv; rw [if_neg (by omega), if_neg (show ¬ v0 (o0 a) = v1 (o1 b) by omega)]; show max (lg _) (lg _) = max (lg _) (lg _); congr 2; omega))), rfl⟩
      ·
        refine G.go hX 14 (wrW cn wst rwx lg n0 v0 x0 y0 o0 n1 v1 x1 y1 o1, 60, [(0, gr 21), (1, gi a), (2, gi b)], [gi (1 + (lg ((((a + 1) * 41) + b) + 1)))]) rfl ?_ ?_
        · refine ⟨?_, trivial⟩
          · omega
        exact g_iret hX hE rfl ⟨(congrArg (fun z => some (gi z)) (by first | rfl | (unfold wLv; rw [if_neg (by omega), if_pos (show v0 (o0 a) = v1 (o1 b) by omega)]; show 1 + lg _ = 1 + lg _; congr 2; omega))), rfl⟩
    ·
      refine G.go hX 1 (wrW cn wst rwx lg n0 v0 x0 y0 o0 n1 v1 x1 y1 o1, 23, [(0, gr 21), (1, gi a), (2, gi b)], [gi 0]) rfl trivial ?_
      exact g_iret hX hE rfl ⟨(congrArg (fun z => some (gi z)) (by first | rfl | (unfold wLv; rw [if_pos (by omega)]))), rfl⟩
set_option maxHeartbeats 4000000 in
set_option maxRecDepth 100000 in
theorem c_X5_measure (l : Launch) (D : va_G) (cA : Nat → ClassId) (cn : Int) (wst : Int) (rwx : Int → Int) (lg : Int → Int) (n0 : Int) (v0 : Int → Int) (x0 : Int → Int) (y0 : Int → Int) (o0 : Int → Int) (n1 : Int) (v1 : Int → Int) (x1 : Int → Int) (y1 : Int → Int) (o1 : Int → Int) (hn : (0 ≤ n0 ∧ n0 ≤ 40) ∧ 0 ≤ n1 ∧ n1 ≤ 40) (ho0 : ∀ j, 0 ≤ j → j < n0 → 0 ≤ o0 j ∧ o0 j < n0) (ho1 : ∀ j, 0 ≤ j → j < n1 → 0 ≤ o1 j ∧ o1 j < n1) (hv : ∀ q : Int, inR (v0 q) ∧ inR (v1 q)) :
    gC l D cA yX5_measure mX5_measure none 0 0 [gr 21] (wrW cn wst rwx lg n0 v0 x0 y0 o0 n1 v1 x1 y1 o1) (fun r9 w9 => ∃ (lg2 : Int → Int), r9 = none ∧ w9 = wrW cn wst rwx lg2 n0 v0 x0 y0 o0 n1 v1 x1 y1 o1 ∧ (wLok n0 n1 (fun j => v0 (o0 j)) (fun j => v1 (o1 j)) (fun a b => lg2 (a * 41 + b)))) := by
  refine gC_of rfl kX5_measure rfl rfl (Nat.le_of_ble_eq_true rfl) (fun X ad hX hE => ?_)
  refine G.go hX 4 (wrW cn wst rwx lg n0 v0 x0 y0 o0 n1 v1 x1 y1 o1, 8, [(0, gr 21), (1, gi n0)], []) rfl trivial ?_
  have lp8 : ∀ (n : Nat) (a : Int) (lg1 : Int → Int), (-1 ≤ a ∧ a ≤ n0) → (wLp n0 n1 (fun j => v0 (o0 j)) (fun j => v1 (o1 j)) lg1 a n1) → (a + 1).toNat < n → G X mX5_measure ad 0 0 (wrW cn wst rwx lg1 n0 v0 x0 y0 o0 n1 v1 x1 y1 o1, 8, [(0, gr 21), (1, gi a)], []) := by
    intro n
    induction n with
    | zero => intro a lg1 ha hp1 hm9; exact absurd hm9 (Nat.not_lt_zero _)
    | succ n ih8 =>
      intro a lg1 ha hp1 hm8
      refine G.go hX 1 (wrW cn wst rwx lg1 n0 v0 x0 y0 o0 n1 v1 x1 y1 o1, 9, [(0, gr 21), (1, gi a)], [gi a]) rfl trivial ?_
      refine g_if_lt hX 53 rfl rfl ⟨by omega, by omega⟩ (fun b9 => ?_) (fun b9 => ?_)
      ·
        exact g_vret hX hE rfl ⟨lg1, rfl, rfl, fun a' b' h1 h2 h3 h4 => hp1 a' b' h1 h2 h3 h4 (by omega)⟩
      ·
        refine G.go hX 4 (wrW cn wst rwx lg1 n0 v0 x0 y0 o0 n1 v1 x1 y1 o1, 20, [(0, gr 21), (1, gi a), (2, gi n1)], []) rfl trivial ?_
        have lp20 : ∀ (n : Nat) (b : Int) (lg3 : Int → Int), (-1 ≤ b ∧ b ≤ n1) → (wLp n0 n1 (fun j => v0 (o0 j)) (fun j => v1 (o1 j)) lg3 a b) → (b + 1).toNat < n → G X mX5_measure ad 0 0 (wrW cn wst rwx lg3 n0 v0 x0 y0 o0 n1 v1 x1 y1 o1, 20, [(0, gr 21), (1, gi a), (2, gi b)], []) := by
          intro n
          induction n with
          | zero => intro b lg3 hb hp3 hm9; exact absurd hm9 (Nat.not_lt_zero _)
          | succ n ih20 =>
            intro b lg3 hb hp3 hm20
            refine G.go hX 1 (wrW cn wst rwx lg3 n0 v0 x0 y0 o0 n1 v1 x1 y1 o1, 21, [(0, gr 21), (1, gi a), (2, gi b)], [gi b]) rfl trivial ?_
            refine g_if_lt hX 47 rfl rfl ⟨by omega, by omega⟩ (fun b21 => ?_) (fun b21 => ?_)
            ·
              refine G.go hX 2 (wrW cn wst rwx lg3 n0 v0 x0 y0 o0 n1 v1 x1 y1 o1, 8, [(0, gr 21), (1, gi (a + (-1))), (2, gi b)], []) rfl trivial ?_
              refine G.locs [(0, gr 21), (1, gi (a + (-1)))] [0, 1] rfl ?_
              exact ih8 (a + (-1)) lg3 (by omega) (by intro a' b' h1 h2 h3 h4 h5; exact hp3 a' b' h1 h2 h3 h4 (by omega)) (by omega)
            ·
              refine G.go hX 10 (wrW cn wst rwx lg3 n0 v0 x0 y0 o0 n1 v1 x1 y1 o1, 37, [(0, gr 21), (1, gi a), (2, gi b)], [gi b, gi a, gr 21, gi ((a * 41) + b), gr 23]) rfl trivial ?_
              refine G.callV (av := [gi a, gi b]) (o := 21) (st := [gi ((a * 41) + b), gr 23]) hX rfl (fun l D cA => c_X5_measureAt l D cA cn wst rwx lg3 n0 v0 x0 y0 o0 n1 v1 x1 y1 o1 a b (by first | assumption | omega) (by first | assumption | omega) (by first | assumption | omega) (by first | assumption | omega) (by first | assumption | omega) (by first | assumption | omega) (by first | assumption | omega)) (by decide +kernel) aX5_measureAt rfl rfl rfl ⟨rfl, rfl⟩ (by decide) (Nat.le_of_ble_eq_true rfl) [0, 1, 2, 3, 4, 5, 6, 7, 8, 9, 10, 11, 12] [] [] rfl rfl rfl (fun r w' hp => ?_)
              obtain ⟨rfl, rfl⟩ := hp
              show G X mX5_measure ad 0 0 (wrW cn wst rwx lg3 n0 v0 x0 y0 o0 n1 v1 x1 y1 o1, 40, [(0, gr 21), (1, gi a), (2, gi b)], [gi (wLv n0 n1 (fun j => v0 (o0 j)) (fun j => v1 (o1 j)) (fun a b => lg3 (a * 41 + b)) a b), gi ((a * 41) + b), gr 23])
              refine G.go hX 3 (wrW cn wst rwx (gu lg3 ((a * 41) + b) (wLv n0 n1 (fun j => v0 (o0 j)) (fun j => v1 (o1 j)) (fun a b => lg3 (a * 41 + b)) a b)) n0 v0 x0 y0 o0 n1 v1 x1 y1 o1, 20, [(0, gr 21), (1, gi a), (2, gi (b + (-1)))], []) rfl ?_ ?_
              · refine ⟨?_, trivial⟩
                · omega
              exact ih20 (b + (-1)) (gu lg3 ((a * 41) + b) (wLv n0 n1 (fun j => v0 (o0 j)) (fun j => v1 (o1 j)) (fun a b => lg3 (a * 41 + b)) a b)) (by omega) (by have h9 := wLp_step (by omega) hp3 (by omega) (by omega) (by omega) (by omega); rw [show b + (-1) = b - 1 by omega]; exact h9) (by omega)
        exact lp20 _ n1 lg1 (by omega) (by exact hp1) (Nat.lt_succ_self _)
  exact lp8 _ n0 lg (by omega) (by intro a' b' _ _ _ _ h9; omega) (Nat.lt_succ_self _)
set_option maxHeartbeats 4000000 in
set_option maxRecDepth 100000 in
theorem c_X5_isKept (l : Launch) (D : va_G) (cA : Nat → ClassId) (cn : Int) (wst : Int) (rwx : Int → Int) (lg : Int → Int) (n0 : Int) (v0 : Int → Int) (x0 : Int → Int) (y0 : Int → Int) (o0 : Int → Int) (n1 : Int) (v1 : Int → Int) (x1 : Int → Int) (y1 : Int → Int) (o1 : Int → Int) (a : Int) (b : Int) (hn : (0 ≤ n0 ∧ n0 ≤ 40) ∧ 0 ≤ n1 ∧ n1 ≤ 40) (ho0 : ∀ j, 0 ≤ j → j < n0 → 0 ≤ o0 j ∧ o0 j < n0) (ho1 : ∀ j, 0 ≤ j → j < n1 → 0 ≤ o1 j ∧ o1 j < n1) (hv : ∀ q : Int, inR (v0 q) ∧ inR (v1 q)) (ha : 0 ≤ a ∧ a ≤ n0) (hb : 0 ≤ b ∧ b ≤ n1) :
    gC l D cA yX5_isKept mX5_isKept (some .boolean) 0 0 [gr 21, gi a, gi b] (wrW cn wst rwx lg n0 v0 x0 y0 o0 n1 v1 x1 y1 o1) (fun r9 w9 => r9 = some (gi (gb (a < n0 ∧ b < n1 ∧ v0 (o0 a) = v1 (o1 b)))) ∧ w9 = wrW cn wst rwx lg n0 v0 x0 y0 o0 n1 v1 x1 y1 o1) := by
  refine gC_of rfl kX5_isKept rfl rfl (Nat.le_of_ble_eq_true rfl) (fun X ad hX hE => ?_)
  refine G.go hX 4 (wrW cn wst rwx lg n0 v0 x0 y0 o0 n1 v1 x1 y1 o1, 8, [(0, gr 21), (1, gi a), (2, gi b)], [gi n0, gi a]) rfl trivial ?_
  refine g_icmp_ge hX 45 rfl rfl ⟨by omega, by omega⟩ ⟨by omega, by omega⟩ (fun b8 => ?_) (fun b8 => ?_)
  ·
    refine G.go hX 1 (wrW cn wst rwx lg n0 v0 x0 y0 o0 n1 v1 x1 y1 o1, 46, [(0, gr 21), (1, gi a), (2, gi b)], [gi 0]) rfl trivial ?_
    exact g_zret hX hE rfl (Or.inl rfl) ⟨(congrArg (fun z => some (gi z)) (gb_f (by omega)).symm), rfl⟩
  ·
    refine G.go hX 4 (wrW cn wst rwx lg n0 v0 x0 y0 o0 n1 v1 x1 y1 o1, 19, [(0, gr 21), (1, gi a), (2, gi b)], [gi n1, gi b]) rfl trivial ?_
    refine g_icmp_ge hX 45 rfl rfl ⟨by omega, by omega⟩ ⟨by omega, by omega⟩ (fun b19 => ?_) (fun b19 => ?_)
    ·
      refine G.go hX 1 (wrW cn wst rwx lg n0 v0 x0 y0 o0 n1 v1 x1 y1 o1, 46, [(0, gr 21), (1, gi a), (2, gi b)], [gi 0]) rfl trivial ?_
      exact g_zret hX hE rfl (Or.inl rfl) ⟨(congrArg (fun z => some (gi z)) (gb_f (by omega)).symm), rfl⟩
    ·
      have e0 := ho0 a (by omega) (by omega)
      have e1 := ho1 b (by omega) (by omega)
      refine G.go hX 3 (wrW cn wst rwx lg n0 v0 x0 y0 o0 n1 v1 x1 y1 o1, 27, [(0, gr 21), (1, gi a), (2, gi b)], [gi a, gr 11]) rfl trivial ?_
      refine G.callV (av := [gi a]) (o := 11) (st := []) hX rfl (fun l D cA => c_X6_valueAt_0 l D cA n0 v0 x0 y0 o0 a ⟨by omega, by omega, by omega, by omega⟩) (by decide +kernel) aX6_valueAt rfl rfl rfl ⟨rfl, rfl⟩ (by decide) (Nat.le_of_ble_eq_true rfl) [3, 4, 5, 6, 7] [0, 1, 2, 8, 9, 10, 11, 12] [(21, gob 6 [gi cn, gi wst, gr 11, gr 16, gr 22, gr 23]), (22, gai 0 320 rwx), (23, gai 0 1681 lg), (16, gob 7 [gi n1, gr 17, gr 18, gr 19, gr 20]), (17, gai 0 40 v1), (18, gai 0 40 x1), (19, gai 0 40 y1), (20, gai 0 40 o1)] rfl rfl rfl (fun r w' hp => ?_)
      obtain ⟨rfl, rfl⟩ := hp
      refine G.perm (wrW cn wst rwx lg n0 v0 x0 y0 o0 n1 v1 x1 y1 o1) [0, 1, 2, 8, 9, 10, 11, 12, 3, 4, 5, 6, 7] rfl rfl ?_
      show G X mX5_isKept ad 0 0 (wrW cn wst rwx lg n0 v0 x0 y0 o0 n1 v1 x1 y1 o1, 30, [(0, gr 21), (1, gi a), (2, gi b)], [gi (v0 (o0 a))])
      refine G.go hX 3 (wrW cn wst rwx lg n0 v0 x0 y0 o0 n1 v1 x1 y1 o1, 35, [(0, gr 21), (1, gi a), (2, gi b)], [gi b, gr 16, gi (v0 (o0 a))]) rfl trivial ?_
      refine G.callV (av := [gi b]) (o := 16) (st := [gi (v0 (o0 a))]) hX rfl (fun l D cA => c_X6_valueAt_1 l D cA n1 v1 x1 y1 o1 b ⟨by omega, by omega, by omega, by omega⟩) (by decide +kernel) aX6_valueAt rfl rfl rfl ⟨rfl, rfl⟩ (by decide) (Nat.le_of_ble_eq_true rfl) [8, 9, 10, 11, 12] [0, 1, 2, 3, 4, 5, 6, 7] [(21, gob 6 [gi cn, gi wst, gr 11, gr 16, gr 22, gr 23]), (22, gai 0 320 rwx), (23, gai 0 1681 lg), (11, gob 7 [gi n0, gr 12, gr 13, gr 14, gr 15]), (12, gai 0 40 v0), (13, gai 0 40 x0), (14, gai 0 40 y0), (15, gai 0 40 o0)] rfl rfl rfl (fun r w' hp => ?_)
      obtain ⟨rfl, rfl⟩ := hp
      refine G.perm (wrW cn wst rwx lg n0 v0 x0 y0 o0 n1 v1 x1 y1 o1) [0, 1, 2, 3, 4, 5, 6, 7, 8, 9, 10, 11, 12] rfl rfl ?_
      show G X mX5_isKept ad 0 0 (wrW cn wst rwx lg n0 v0 x0 y0 o0 n1 v1 x1 y1 o1, 38, [(0, gr 21), (1, gi a), (2, gi b)], [gi (v1 (o1 b)), gi (v0 (o0 a))])
      refine g_icmp_ne hX 45 rfl rfl (by first | exact (hv _).1 | exact (hv _).2) (by first | exact (hv _).1 | exact (hv _).2) (fun b38 => ?_) (fun b38 => ?_)
      ·
        refine G.go hX 1 (wrW cn wst rwx lg n0 v0 x0 y0 o0 n1 v1 x1 y1 o1, 46, [(0, gr 21), (1, gi a), (2, gi b)], [gi 0]) rfl trivial ?_
        exact g_zret hX hE rfl (Or.inl rfl) ⟨(congrArg (fun z => some (gi z)) (gb_f (by omega)).symm), rfl⟩
      ·
        refine G.go hX 2 (wrW cn wst rwx lg n0 v0 x0 y0 o0 n1 v1 x1 y1 o1, 46, [(0, gr 21), (1, gi a), (2, gi b)], [gi 1]) rfl trivial ?_
        exact g_zret hX hE rfl (Or.inr rfl) ⟨(congrArg (fun z => some (gi z)) (gb_t (by omega)).symm), rfl⟩
set_option maxHeartbeats 4000000 in
set_option maxRecDepth 100000 in
theorem c_X5_isGone (l : Launch) (D : va_G) (cA : Nat → ClassId) (cn : Int) (wst : Int) (rwx : Int → Int) (lg : Int → Int) (n0 : Int) (v0 : Int → Int) (x0 : Int → Int) (y0 : Int → Int) (o0 : Int → Int) (n1 : Int) (v1 : Int → Int) (x1 : Int → Int) (y1 : Int → Int) (o1 : Int → Int) (a : Int) (b : Int) (hn : (0 ≤ n0 ∧ n0 ≤ 40) ∧ 0 ≤ n1 ∧ n1 ≤ 40) (ha : 0 ≤ a ∧ a ≤ n0) (hb : 0 ≤ b ∧ b ≤ n1) (hL : wLok n0 n1 (fun j => v0 (o0 j)) (fun j => v1 (o1 j)) (fun a b => lg (a * 41 + b))) :
    gC l D cA yX5_isGone mX5_isGone (some .boolean) 0 0 [gr 21, gi a, gi b] (wrW cn wst rwx lg n0 v0 x0 y0 o0 n1 v1 x1 y1 o1) (fun r9 w9 => r9 = some (gi (gb (a < n0 ∧ (n1 ≤ b ∨ lg (a * 41 + (b + 1)) ≤ lg ((a + 1) * 41 + b))))) ∧ w9 = wrW cn wst rwx lg n0 v0 x0 y0 o0 n1 v1 x1 y1 o1) := by
  refine gC_of rfl kX5_isGone rfl rfl (Nat.le_of_ble_eq_true rfl) (fun X ad hX hE => ?_)
  refine G.go hX 4 (wrW cn wst rwx lg n0 v0 x0 y0 o0 n1 v1 x1 y1 o1, 8, [(0, gr 21), (1, gi a), (2, gi b)], [gi n0, gi a]) rfl trivial ?_
  refine g_icmp_lt hX 13 rfl rfl ⟨by omega, by omega⟩ ⟨by omega, by omega⟩ (fun b8 => ?_) (fun b8 => ?_)
  ·
    refine G.go hX 4 (wrW cn wst rwx lg n0 v0 x0 y0 o0 n1 v1 x1 y1 o1, 21, [(0, gr 21), (1, gi a), (2, gi b)], [gi n1, gi b]) rfl trivial ?_
    refine g_icmp_ge hX 53 rfl rfl ⟨by omega, by omega⟩ ⟨by omega, by omega⟩ (fun b21 => ?_) (fun b21 => ?_)
    ·
      refine G.go hX 2 (wrW cn wst rwx lg n0 v0 x0 y0 o0 n1 v1 x1 y1 o1, 58, [(0, gr 21), (1, gi a), (2, gi b)], [gi 1]) rfl trivial ?_
      exact g_zret hX hE rfl (Or.inr rfl) ⟨(congrArg (fun z => some (gi z)) (gb_t (by first | omega | (rw [g3] at b50; omega))).symm), rfl⟩
    ·
      have g1 := hL (a + 1) b (by omega) (by omega) (by omega) (by omega)
      have g2 := hL a (b + 1) (by omega) (by omega) (by omega) (by omega)
      dsimp only at g1 g2
      have g3 : a * 41 + b + 1 = a * 41 + (b + 1) := by omega
      refine G.go hX 20 (wrW cn wst rwx lg n0 v0 x0 y0 o0 n1 v1 x1 y1 o1, 50, [(0, gr 21), (1, gi a), (2, gi b)], [gi (lg (((a * 41) + b) + 1)), gi (lg (((a + 1) * 41) + b))]) rfl ?_ ?_
      · refine ⟨?_, ?_, trivial⟩
        · omega
        · omega
      refine g_icmp_lt hX 57 rfl rfl (by first | exact ⟨by omega, by omega⟩ | (rw [g3]; exact ⟨by omega, by omega⟩)) (by first | exact ⟨by omega, by omega⟩ | (rw [g3]; exact ⟨by omega, by omega⟩)) (fun b50 => ?_) (fun b50 => ?_)
      ·
        refine G.go hX 1 (wrW cn wst rwx lg n0 v0 x0 y0 o0 n1 v1 x1 y1 o1, 58, [(0, gr 21), (1, gi a), (2, gi b)], [gi 0]) rfl trivial ?_
        exact g_zret hX hE rfl (Or.inl rfl) ⟨(congrArg (fun z => some (gi z)) (gb_f (by first | omega | (rw [g3] at b50; omega))).symm), rfl⟩
      ·
        refine G.go hX 2 (wrW cn wst rwx lg n0 v0 x0 y0 o0 n1 v1 x1 y1 o1, 58, [(0, gr 21), (1, gi a), (2, gi b)], [gi 1]) rfl trivial ?_
        exact g_zret hX hE rfl (Or.inr rfl) ⟨(congrArg (fun z => some (gi z)) (gb_t (by first | omega | (rw [g3] at b50; omega))).symm), rfl⟩
  ·
    refine G.go hX 1 (wrW cn wst rwx lg n0 v0 x0 y0 o0 n1 v1 x1 y1 o1, 12, [(0, gr 21), (1, gi a), (2, gi b)], [gi 0]) rfl trivial ?_
    exact g_zret hX hE rfl (Or.inl rfl) ⟨(congrArg (fun z => some (gi z)) (gb_f (by omega)).symm), rfl⟩
set_option maxHeartbeats 4000000 in
set_option maxRecDepth 100000 in
theorem c_X5_tellIfShifted (l : Launch) (D : va_G) (cA : Nat → ClassId) (cn : Int) (wst : Int) (rwx : Int → Int) (lg : Int → Int) (n0 : Int) (v0 : Int → Int) (x0 : Int → Int) (y0 : Int → Int) (o0 : Int → Int) (n1 : Int) (v1 : Int → Int) (x1 : Int → Int) (y1 : Int → Int) (o1 : Int → Int) (a : Int) (b : Int) (hn : (0 ≤ n0 ∧ n0 ≤ 40) ∧ 0 ≤ n1 ∧ n1 ≤ 40) (ho0 : ∀ j, 0 ≤ j → j < n0 → 0 ≤ o0 j ∧ o0 j < n0) (ho1 : ∀ j, 0 ≤ j → j < n1 → 0 ≤ o1 j ∧ o1 j < n1) (hxy : ∀ q : Int, (inR (x0 q) ∧ inR (x1 q)) ∧ inR (y0 q) ∧ inR (y1 q)) (ha : 0 ≤ a ∧ a < n0) (hb : 0 ≤ b ∧ b < n1) (hcn : 0 ≤ cn ∧ cn < 80) :
    gC l D cA yX5_tellIfShifted mX5_tellIfShifted none 0 0 [gr 21, gi a, gi b] (wrW cn wst rwx lg n0 v0 x0 y0 o0 n1 v1 x1 y1 o1) (fun r9 w9 => ∃ (cn2 : Int) (rw2 : Int → Int), r9 = none ∧ w9 = wrW cn2 wst rw2 lg n0 v0 x0 y0 o0 n1 v1 x1 y1 o1 ∧ (x0 (o0 a) = x1 (o1 b) ∧ y0 (o0 a) = y1 (o1 b) → cn2 = cn ∧ rw2 = rwx) ∧ (¬ (x0 (o0 a) = x1 (o1 b) ∧ y0 (o0 a) = y1 (o1 b)) → cn2 = cn + 1 ∧ rw2 = wap rwx cn 4 (v0 (o0 a)) (o0 a) (o1 b))) := by
  have e0 := ho0 a (by omega) (by omega)
  have e1 := ho1 b (by omega) (by omega)
  refine gC_of rfl kX5_tellIfShifted rfl rfl (Nat.le_of_ble_eq_true rfl) (fun X ad hX hE => ?_)
  refine G.go hX 6 (wrW cn wst rwx lg n0 v0 x0 y0 o0 n1 v1 x1 y1 o1, 10, [(0, gr 21), (1, gi a), (2, gi b)], [gi b, gr 16, gi a, gr 11]) rfl trivial ?_
  refine G.callV (av := [gi a, gr 16, gi b]) (o := 11) (st := []) hX rfl (fun l D cA => c_X6_isSamePlace l D cA n0 v0 x0 y0 o0 n1 v1 x1 y1 o1 a b ⟨by omega, by omega, by omega, by omega⟩ ⟨by omega, by omega, by omega, by omega⟩ (by first | assumption | omega)) (by decide +kernel) aX6_isSamePlace rfl rfl rfl ⟨rfl, rfl⟩ (by decide) (Nat.le_of_ble_eq_true rfl) [3, 4, 5, 6, 7, 8, 9, 10, 11, 12] [0, 1, 2] [(21, gob 6 [gi cn, gi wst, gr 11, gr 16, gr 22, gr 23]), (22, gai 0 320 rwx), (23, gai 0 1681 lg)] rfl rfl rfl (fun r w' hp => ?_)
  obtain ⟨rfl, rfl⟩ := hp
  refine G.perm (wrW cn wst rwx lg n0 v0 x0 y0 o0 n1 v1 x1 y1 o1) [0, 1, 2, 3, 4, 5, 6, 7, 8, 9, 10, 11, 12] rfl rfl ?_
  show G X mX5_tellIfShifted ad 0 0 (wrW cn wst rwx lg n0 v0 x0 y0 o0 n1 v1 x1 y1 o1, 13, [(0, gr 21), (1, gi a), (2, gi b)], [gi (gb (x0 (o0 a) = x1 (o1 b) ∧ y0 (o0 a) = y1 (o1 b)))])
  refine g_if_ne hX 45 rfl rfl (gb_r _) (fun b13 => ?_) (fun b13 => ?_)
  ·
    have b13 := gb_n0 b13
    exact g_vret hX hE rfl ⟨cn, rwx, rfl, rfl, fun _ => ⟨rfl, rfl⟩, fun h9 => absurd b13 h9⟩
  ·
    have b13 := gb_nn b13
    refine G.go hX 5 (wrW cn wst rwx lg n0 v0 x0 y0 o0 n1 v1 x1 y1 o1, 23, [(0, gr 21), (1, gi a), (2, gi b)], [gi a, gr 11, gi 4, gr 21]) rfl trivial ?_
    refine G.callV (av := [gi a]) (o := 11) (st := [gi 4, gr 21]) hX rfl (fun l D cA => c_X6_valueAt_0 l D cA n0 v0 x0 y0 o0 a ⟨by omega, by omega, by omega, by omega⟩) (by decide +kernel) aX6_valueAt rfl rfl rfl ⟨rfl, rfl⟩ (by decide) (Nat.le_of_ble_eq_true rfl) [3, 4, 5, 6, 7] [0, 1, 2, 8, 9, 10, 11, 12] [(21, gob 6 [gi cn, gi wst, gr 11, gr 16, gr 22, gr 23]), (22, gai 0 320 rwx), (23, gai 0 1681 lg), (16, gob 7 [gi n1, gr 17, gr 18, gr 19, gr 20]), (17, gai 0 40 v1), (18, gai 0 40 x1), (19, gai 0 40 y1), (20, gai 0 40 o1)] rfl rfl rfl (fun r w' hp => ?_)
    obtain ⟨rfl, rfl⟩ := hp
    refine G.perm (wrW cn wst rwx lg n0 v0 x0 y0 o0 n1 v1 x1 y1 o1) [0, 1, 2, 8, 9, 10, 11, 12, 3, 4, 5, 6, 7] rfl rfl ?_
    show G X mX5_tellIfShifted ad 0 0 (wrW cn wst rwx lg n0 v0 x0 y0 o0 n1 v1 x1 y1 o1, 26, [(0, gr 21), (1, gi a), (2, gi b)], [gi (v0 (o0 a)), gi 4, gr 21])
    refine G.go hX 3 (wrW cn wst rwx lg n0 v0 x0 y0 o0 n1 v1 x1 y1 o1, 31, [(0, gr 21), (1, gi a), (2, gi b)], [gi a, gr 11, gi (v0 (o0 a)), gi 4, gr 21]) rfl trivial ?_
    refine G.callV (av := [gi a]) (o := 11) (st := [gi (v0 (o0 a)), gi 4, gr 21]) hX rfl (fun l D cA => c_X6_numberAt_0 l D cA n0 v0 x0 y0 o0 a ⟨by omega, by omega⟩) (by decide +kernel) aX6_numberAt rfl rfl rfl ⟨rfl, rfl⟩ (by decide) (Nat.le_of_ble_eq_true rfl) [3, 4, 5, 6, 7] [0, 1, 2, 8, 9, 10, 11, 12] [(21, gob 6 [gi cn, gi wst, gr 11, gr 16, gr 22, gr 23]), (22, gai 0 320 rwx), (23, gai 0 1681 lg), (16, gob 7 [gi n1, gr 17, gr 18, gr 19, gr 20]), (17, gai 0 40 v1), (18, gai 0 40 x1), (19, gai 0 40 y1), (20, gai 0 40 o1)] rfl rfl rfl (fun r w' hp => ?_)
    obtain ⟨rfl, rfl⟩ := hp
    refine G.perm (wrW cn wst rwx lg n0 v0 x0 y0 o0 n1 v1 x1 y1 o1) [0, 1, 2, 8, 9, 10, 11, 12, 3, 4, 5, 6, 7] rfl rfl ?_
    show G X mX5_tellIfShifted ad 0 0 (wrW cn wst rwx lg n0 v0 x0 y0 o0 n1 v1 x1 y1 o1, 34, [(0, gr 21), (1, gi a), (2, gi b)], [gi (o0 a), gi (v0 (o0 a)), gi 4, gr 21])
    refine G.go hX 3 (wrW cn wst rwx lg n0 v0 x0 y0 o0 n1 v1 x1 y1 o1, 39, [(0, gr 21), (1, gi a), (2, gi b)], [gi b, gr 16, gi (o0 a), gi (v0 (o0 a)), gi 4, gr 21]) rfl trivial ?_
    refine G.callV (av := [gi b]) (o := 16) (st := [gi (o0 a), gi (v0 (o0 a)), gi 4, gr 21]) hX rfl (fun l D cA => c_X6_numberAt_1 l D cA n1 v1 x1 y1 o1 b ⟨by omega, by omega⟩) (by decide +kernel) aX6_numberAt rfl rfl rfl ⟨rfl, rfl⟩ (by decide) (Nat.le_of_ble_eq_true rfl) [8, 9, 10, 11, 12] [0, 1, 2, 3, 4, 5, 6, 7] [(21, gob 6 [gi cn, gi wst, gr 11, gr 16, gr 22, gr 23]), (22, gai 0 320 rwx), (23, gai 0 1681 lg), (11, gob 7 [gi n0, gr 12, gr 13, gr 14, gr 15]), (12, gai 0 40 v0), (13, gai 0 40 x0), (14, gai 0 40 y0), (15, gai 0 40 o0)] rfl rfl rfl (fun r w' hp => ?_)
    obtain ⟨rfl, rfl⟩ := hp
    refine G.perm (wrW cn wst rwx lg n0 v0 x0 y0 o0 n1 v1 x1 y1 o1) [0, 1, 2, 3, 4, 5, 6, 7, 8, 9, 10, 11, 12] rfl rfl ?_
    show G X mX5_tellIfShifted ad 0 0 (wrW cn wst rwx lg n0 v0 x0 y0 o0 n1 v1 x1 y1 o1, 42, [(0, gr 21), (1, gi a), (2, gi b)], [gi (o1 b), gi (o0 a), gi (v0 (o0 a)), gi 4, gr 21])
    refine G.callV (av := [gi 4, gi (v0 (o0 a)), gi (o0 a), gi (o1 b)]) (o := 21) (st := []) hX rfl (fun l D cA => c_X5_append l D cA cn wst rwx lg n0 v0 x0 y0 o0 n1 v1 x1 y1 o1 4 (v0 (o0 a)) (o0 a) (o1 b) (by first | assumption | omega)) (by decide +kernel) aX5_append rfl rfl rfl ⟨rfl, rfl⟩ (by decide) (Nat.le_of_ble_eq_true rfl) [0, 1, 2, 3, 4, 5, 6, 7, 8, 9, 10, 11, 12] [] [] rfl rfl rfl (fun r w' hp => ?_)
    obtain ⟨rfl, rfl⟩ := hp
    show G X mX5_tellIfShifted ad 0 0 (wrW (cn + 1) wst (wap rwx cn 4 (v0 (o0 a)) (o0 a) (o1 b)) lg n0 v0 x0 y0 o0 n1 v1 x1 y1 o1, 45, [(0, gr 21), (1, gi a), (2, gi b)], [])
    exact g_vret hX hE rfl ⟨_, _, rfl, rfl, fun h9 => absurd h9 b13, fun _ => ⟨rfl, rfl⟩⟩
