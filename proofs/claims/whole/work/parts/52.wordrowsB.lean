theorem wap_r {R : Int → Int} (h : ∀ q, inR (R q)) {c k w p q : Int} (hk : inR k) (hw : inR w) (hp : inR p) (hq : inR q) : ∀ j, inR (wap R c k w p q j) := by
  unfold wap
  exact gu_r (gu_r (gu_r (gu_r h hk) hw) hp) hq
theorem wmv_r {R : Int → Int} (h : ∀ q, inR (R q)) (g i : Int) : ∀ j, inR (wmv R g i j) := by
  unfold wmv
  exact gu_r (gu_r (gu_r h ⟨by omega, by omega⟩) (h _)) ⟨by omega, by omega⟩
theorem wp1_r {R : Int → Int} (h : ∀ q, inR (R q)) (c : Nat) (g : Int) : ∀ j, inR (wp1 c R g j) := by
  unfold wp1
  split
  · split
    · exact h
    · exact wmv_r h _ _
  · exact h
theorem wpr_r {R : Int → Int} (h : ∀ q, inR (R q)) (c : Nat) : ∀ (n : Nat), ∀ j, inR (wpr c R n j)
  | 0 => h
  | n + 1 => wp1_r (wpr_r h c n) c n
theorem wfi_s {R : Int → Int} {w i : Int} {c : Int} (i1 : i < c) (hn : ¬ (R (i * 4 + 0) = 3 ∧ R (i * 4 + 1) = w)) : wfi R w (c - i).toNat i = wfi R w (c - (i + 1)).toNat (i + 1) := by
  rw [show (c - i).toNat = (c - (i + 1)).toNat + 1 by omega]
  conv => lhs; unfold wfi
  rw [if_neg hn]
theorem wfi_f {R : Int → Int} {w i : Int} {c : Int} (i1 : i < c) (hn : R (i * 4 + 0) = 3 ∧ R (i * 4 + 1) = w) : wfi R w (c - i).toNat i = i := by
  rw [show (c - i).toNat = (c - (i + 1)).toNat + 1 by omega]
  unfold wfi
  rw [if_pos hn]
/-- the rows that are told so far, moved together -/
def wDr (R rw_ : Int → Int) (i kp : Int) : Prop := kp = wkc R i.toNat ∧ (∀ k : Nat, (k : Int) < i → R ((k : Int) * 4 + 0) ≠ 0 → ∀ f : Int, 0 ≤ f → f < 4 → rw_ (wkc R k * 4 + f) = R ((k : Int) * 4 + f)) ∧ ∀ q, i * 4 ≤ q → rw_ q = R q
theorem wkc_n (R : Int → Int) {i : Int} (i0 : 0 ≤ i) : wkc R (i + 1).toNat = wkc R i.toNat + gb (R (i * 4 + 0) ≠ 0) := by
  rw [show (i + 1).toNat = i.toNat + 1 by omega, wkc_s, show ((i.toNat : Nat) : Int) = i by omega]
theorem wDr_skip {R rw_ : Int → Int} {i kp : Int} (h : wDr R rw_ i kp) (i0 : 0 ≤ i) (h0 : R (i * 4 + 0) = 0) : wDr R rw_ (i + 1) kp := by
  obtain ⟨h1, h2, h3⟩ := h
  refine ⟨?_, fun k k1 hk => ?_, fun q hq => h3 q (by omega)⟩
  · rw [wkc_n R i0, gb_f (fun h9 => h9 h0), h1]
    omega
  · by_cases e : (k : Int) = i
    · rw [e] at hk
      exact absurd h0 hk
    · exact h2 k (by omega) hk
theorem wDr_keep {R rw_ : Int → Int} {i kp : Int} (h : wDr R rw_ i kp) (i0 : 0 ≤ i) (h0 : ¬ R (i * 4 + 0) = 0) : wDr R (gcp rw_ rw_ (i * 4) (kp * 4) 4) (i + 1) (kp + 1) := by
  obtain ⟨h1, h2, h3⟩ := h
  have hle := wkc_le R i.toNat
  refine ⟨?_, fun k k1 hk f f0 f1 => ?_, fun q hq => ?_⟩
  · rw [wkc_n R i0, gb_t h0, h1]
  · have e9 := wkc_le R k
    by_cases e : (k : Int) = i
    · have : k = i.toNat := by omega
      subst this
      rw [← h1]
      unfold gcp
      rw [if_pos (by omega), h3 _ (by omega)]
      congr 1
      omega
    · have hm := gsm_mono (f := fun q => gb (R (q * 4 + 0) ≠ 0)) (fun _ => gb_01 _) (k + 1) i.toNat (by omega)
      have hs := wkc_s R k
      rw [gb_t hk] at hs
      have hm2 : wkc R (k + 1) ≤ wkc R i.toNat := hm
      unfold gcp
      rw [if_neg (by omega)]
      exact h2 k (by omega) hk f f0 f1
  · unfold gcp
    rw [if_neg (by omega)]
    exact h3 q (by omega)
set_option maxHeartbeats 4000000 in
set_option maxRecDepth 100000 in
theorem c_X5_walk (l : Launch) (D : va_G) (cA : Nat → ClassId) (cn : Int) (wst : Int) (rwx : Int → Int) (lg : Int → Int) (n0 : Int) (v0 : Int → Int) (x0 : Int → Int) (y0 : Int → Int) (o0 : Int → Int) (n1 : Int) (v1 : Int → Int) (x1 : Int → Int) (y1 : Int → Int) (o1 : Int → Int) (hn : (0 ≤ n0 ∧ n0 ≤ 40) ∧ 0 ≤ n1 ∧ n1 ≤ 40) (ho0 : ∀ j, 0 ≤ j → j < n0 → 0 ≤ o0 j ∧ o0 j < n0) (ho1 : ∀ j, 0 ≤ j → j < n1 → 0 ≤ o1 j ∧ o1 j < n1) (hv : ∀ q : Int, inR (v0 q) ∧ inR (v1 q)) (hxy : ∀ q : Int, (inR (x0 q) ∧ inR (x1 q)) ∧ inR (y0 q) ∧ inR (y1 q)) (hL : wLok n0 n1 (fun j => v0 (o0 j)) (fun j => v1 (o1 j)) (fun a b => lg (a * 41 + b))) (hc0 : cn = 0) (hrw : ∀ q : Int, inR (rwx q)) :
    gC l D cA yX5_walk mX5_walk none 0 0 [gr 21] (wrW cn wst rwx lg n0 v0 x0 y0 o0 n1 v1 x1 y1 o1) (fun r9 w9 => ∃ (cn2 : Int) (rw2 : Int → Int), r9 = none ∧ w9 = wrW cn2 wst rw2 lg n0 v0 x0 y0 o0 n1 v1 x1 y1 o1 ∧ (cn2 = ((wWk n0 n1 (fun j => v0 (o0 j)) o0 (fun j => x0 (o0 j)) (fun j => y0 (o0 j)) (fun j => v1 (o1 j)) o1 (fun j => x1 (o1 j)) (fun j => y1 (o1 j)) (fun a b => lg (a * 41 + b)) 80 0 0).length : Int)) ∧ (wrl rw2 (wWk n0 n1 (fun j => v0 (o0 j)) o0 (fun j => x0 (o0 j)) (fun j => y0 (o0 j)) (fun j => v1 (o1 j)) o1 (fun j => x1 (o1 j)) (fun j => y1 (o1 j)) (fun a b => lg (a * 41 + b)) 80 0 0)) ∧ (∀ q : Int, inR (rw2 q)) ∧ (cn2 ≤ 80)) := by
  refine gC_of rfl kX5_walk rfl rfl (Nat.le_of_ble_eq_true rfl) (fun X ad hX hE => ?_)
  refine G.go hX 6 (wrW cn wst rwx lg n0 v0 x0 y0 o0 n1 v1 x1 y1 o1, 6, [(0, gr 21), (1, gi 0), (2, gi 0), (3, gi 0)], []) rfl trivial ?_
  have lp6 : ∀ (n : Nat) (a : Int) (b : Int) (st : Int) (cn1 : Int) (rw1 : Int → Int) (l1 : List (Int × Int × Int × Int)), (((0 ≤ a ∧ a ≤ n0) ∧ 0 ≤ b ∧ b ≤ n1) ∧ 0 ≤ cn1 ∧ cn1 ≤ a + b) → (0 ≤ st ∧ st ≤ 80 ∧ n0 - a + (n1 - b) ≤ 80 - st) → (cn1 = (l1.length : Int)) → (wrl rw1 l1) → (l1 ++ wWk n0 n1 (fun j => v0 (o0 j)) o0 (fun j => x0 (o0 j)) (fun j => y0 (o0 j)) (fun j => v1 (o1 j)) o1 (fun j => x1 (o1 j)) (fun j => y1 (o1 j)) (fun a b => lg (a * 41 + b)) (80 - st).toNat a b = wWk n0 n1 (fun j => v0 (o0 j)) o0 (fun j => x0 (o0 j)) (fun j => y0 (o0 j)) (fun j => v1 (o1 j)) o1 (fun j => x1 (o1 j)) (fun j => y1 (o1 j)) (fun a b => lg (a * 41 + b)) 80 0 0) → (∀ q : Int, inR (rw1 q)) → (80 - st).toNat < n → G X mX5_walk ad 0 0 (wrW cn1 wst rw1 lg n0 v0 x0 y0 o0 n1 v1 x1 y1 o1, 6, [(0, gr 21), (1, gi a), (2, gi b), (3, gi st)], []) := by
    intro n
    induction n with
    | zero => intro a b st cn1 rw1 l1 hab hst hc1 hr1 hw1 hi1 hm9; exact absurd hm9 (Nat.not_lt_zero _)
    | succ n ih6 =>
      intro a b st cn1 rw1 l1 hab hst hc1 hr1 hw1 hi1 hm6
      refine G.go hX 2 (wrW cn1 wst rw1 lg n0 v0 x0 y0 o0 n1 v1 x1 y1 o1, 9, [(0, gr 21), (1, gi a), (2, gi b), (3, gi st)], [gi 80, gi st]) rfl trivial ?_
      refine g_icmp_ge hX 126 rfl rfl ⟨by omega, by omega⟩ ⟨by omega, by omega⟩ (fun b9 => ?_) (fun b9 => ?_)
      ·
        have hfin : l1 = wWk n0 n1 (fun j => v0 (o0 j)) o0 (fun j => x0 (o0 j)) (fun j => y0 (o0 j)) (fun j => v1 (o1 j)) o1 (fun j => x1 (o1 j)) (fun j => y1 (o1 j)) (fun a b => lg (a * 41 + b)) 80 0 0 := by rw [← hw1, wWk_end (by omega) (by omega), List.append_nil]
        exact g_vret hX hE rfl ⟨cn1, rw1, rfl, rfl, by rw [← hfin]; exact hc1, by rw [← hfin]; exact hr1, hi1, by omega⟩
      ·
        refine G.go hX 4 (wrW cn1 wst rw1 lg n0 v0 x0 y0 o0 n1 v1 x1 y1 o1, 20, [(0, gr 21), (1, gi a), (2, gi b), (3, gi st)], [gi n0, gi a]) rfl trivial ?_
        refine g_icmp_lt hX 34 rfl rfl ⟨by omega, by omega⟩ ⟨by omega, by omega⟩ (fun b20 => ?_) (fun b20 => ?_)
        ·
          have hfu : (80 - st).toNat = (80 - (st + 1)).toNat + 1 := by omega
          refine G.go hX 3 (wrW cn1 wst rw1 lg n0 v0 x0 y0 o0 n1 v1 x1 y1 o1, 37, [(0, gr 21), (1, gi a), (2, gi b), (3, gi st)], [gi b, gi a, gr 21]) rfl trivial ?_
          refine G.callV (av := [gi a, gi b]) (o := 21) (st := []) hX rfl (fun l D cA => c_X5_isKept l D cA cn1 wst rw1 lg n0 v0 x0 y0 o0 n1 v1 x1 y1 o1 a b (by first | assumption | omega) (by first | assumption | omega) (by first | assumption | omega) (by first | assumption | omega) (by first | assumption | omega) (by first | assumption | omega)) (by decide +kernel) aX5_isKept rfl rfl rfl ⟨rfl, rfl⟩ (by decide) (Nat.le_of_ble_eq_true rfl) [0, 1, 2, 3, 4, 5, 6, 7, 8, 9, 10, 11, 12] [] [] rfl rfl rfl (fun r w' hp => ?_)
          obtain ⟨rfl, rfl⟩ := hp
          show G X mX5_walk ad 0 0 (wrW cn1 wst rw1 lg n0 v0 x0 y0 o0 n1 v1 x1 y1 o1, 40, [(0, gr 21), (1, gi a), (2, gi b), (3, gi st)], [gi (gb (a < n0 ∧ b < n1 ∧ v0 (o0 a) = v1 (o1 b)))])
          refine g_if_eq hX 58 rfl rfl (gb_r _) (fun b40 => ?_) (fun b40 => ?_)
          ·
            have b40 := gb_0.mp b40
            refine G.go hX 3 (wrW cn1 wst rw1 lg n0 v0 x0 y0 o0 n1 v1 x1 y1 o1, 61, [(0, gr 21), (1, gi a), (2, gi b), (3, gi st)], [gi b, gi a, gr 21]) rfl trivial ?_
            refine G.callV (av := [gi a, gi b]) (o := 21) (st := []) hX rfl (fun l D cA => c_X5_isGone l D cA cn1 wst rw1 lg n0 v0 x0 y0 o0 n1 v1 x1 y1 o1 a b (by first | assumption | omega) (by first | assumption | omega) (by first | assumption | omega) (by first | assumption | omega)) (by decide +kernel) aX5_isGone rfl rfl rfl ⟨rfl, rfl⟩ (by decide) (Nat.le_of_ble_eq_true rfl) [0, 1, 2, 3, 4, 5, 6, 7, 8, 9, 10, 11, 12] [] [] rfl rfl rfl (fun r w' hp => ?_)
            obtain ⟨rfl, rfl⟩ := hp
            show G X mX5_walk ad 0 0 (wrW cn1 wst rw1 lg n0 v0 x0 y0 o0 n1 v1 x1 y1 o1, 64, [(0, gr 21), (1, gi a), (2, gi b), (3, gi st)], [gi (gb (a < n0 ∧ (n1 ≤ b ∨ lg (a * 41 + (b + 1)) ≤ lg ((a + 1) * 41 + b))))])
            refine g_if_eq hX 95 rfl rfl (gb_r _) (fun b64 => ?_) (fun b64 => ?_)
            ·
              have b64 := gb_0.mp b64
              have hb9 : b < n1 := by omega
              have e1 := ho1 b (by omega) (by omega)
              refine G.go hX 5 (wrW cn1 wst rw1 lg n0 v0 x0 y0 o0 n1 v1 x1 y1 o1, 102, [(0, gr 21), (1, gi a), (2, gi b), (3, gi st)], [gi b, gr 16, gi 3, gr 21]) rfl trivial ?_
              refine G.callV (av := [gi b]) (o := 16) (st := [gi 3, gr 21]) hX rfl (fun l D cA => c_X6_valueAt_1 l D cA n1 v1 x1 y1 o1 b ⟨by omega, by omega, by omega, by omega⟩) (by decide +kernel) aX6_valueAt rfl rfl rfl ⟨rfl, rfl⟩ (by decide) (Nat.le_of_ble_eq_true rfl) [8, 9, 10, 11, 12] [0, 1, 2, 3, 4, 5, 6, 7] [(21, gob 6 [gi cn1, gi wst, gr 11, gr 16, gr 22, gr 23]), (22, gai 0 320 rw1), (23, gai 0 1681 lg), (11, gob 7 [gi n0, gr 12, gr 13, gr 14, gr 15]), (12, gai 0 40 v0), (13, gai 0 40 x0), (14, gai 0 40 y0), (15, gai 0 40 o0)] rfl rfl rfl (fun r w' hp => ?_)
              obtain ⟨rfl, rfl⟩ := hp
              refine G.perm (wrW cn1 wst rw1 lg n0 v0 x0 y0 o0 n1 v1 x1 y1 o1) [0, 1, 2, 3, 4, 5, 6, 7, 8, 9, 10, 11, 12] rfl rfl ?_
              show G X mX5_walk ad 0 0 (wrW cn1 wst rw1 lg n0 v0 x0 y0 o0 n1 v1 x1 y1 o1, 105, [(0, gr 21), (1, gi a), (2, gi b), (3, gi st)], [gi (v1 (o1 b)), gi 3, gr 21])
              refine G.go hX 4 (wrW cn1 wst rw1 lg n0 v0 x0 y0 o0 n1 v1 x1 y1 o1, 111, [(0, gr 21), (1, gi a), (2, gi b), (3, gi st)], [gi b, gr 16, gi (-1), gi (v1 (o1 b)), gi 3, gr 21]) rfl trivial ?_
              refine G.callV (av := [gi b]) (o := 16) (st := [gi (-1), gi (v1 (o1 b)), gi 3, gr 21]) hX rfl (fun l D cA => c_X6_numberAt_1 l D cA n1 v1 x1 y1 o1 b ⟨by omega, by omega⟩) (by decide +kernel) aX6_numberAt rfl rfl rfl ⟨rfl, rfl⟩ (by decide) (Nat.le_of_ble_eq_true rfl) [8, 9, 10, 11, 12] [0, 1, 2, 3, 4, 5, 6, 7] [(21, gob 6 [gi cn1, gi wst, gr 11, gr 16, gr 22, gr 23]), (22, gai 0 320 rw1), (23, gai 0 1681 lg), (11, gob 7 [gi n0, gr 12, gr 13, gr 14, gr 15]), (12, gai 0 40 v0), (13, gai 0 40 x0), (14, gai 0 40 y0), (15, gai 0 40 o0)] rfl rfl rfl (fun r w' hp => ?_)
              obtain ⟨rfl, rfl⟩ := hp
              refine G.perm (wrW cn1 wst rw1 lg n0 v0 x0 y0 o0 n1 v1 x1 y1 o1) [0, 1, 2, 3, 4, 5, 6, 7, 8, 9, 10, 11, 12] rfl rfl ?_
              show G X mX5_walk ad 0 0 (wrW cn1 wst rw1 lg n0 v0 x0 y0 o0 n1 v1 x1 y1 o1, 114, [(0, gr 21), (1, gi a), (2, gi b), (3, gi st)], [gi (o1 b), gi (-1), gi (v1 (o1 b)), gi 3, gr 21])
              refine G.callV (av := [gi 3, gi (v1 (o1 b)), gi (-1), gi (o1 b)]) (o := 21) (st := []) hX rfl (fun l D cA => c_X5_append l D cA cn1 wst rw1 lg n0 v0 x0 y0 o0 n1 v1 x1 y1 o1 3 (v1 (o1 b)) (-1) (o1 b) (by first | assumption | omega)) (by decide +kernel) aX5_append rfl rfl rfl ⟨rfl, rfl⟩ (by decide) (Nat.le_of_ble_eq_true rfl) [0, 1, 2, 3, 4, 5, 6, 7, 8, 9, 10, 11, 12] [] [] rfl rfl rfl (fun r w' hp => ?_)
              obtain ⟨rfl, rfl⟩ := hp
              show G X mX5_walk ad 0 0 (wrW (cn1 + 1) wst (wap rw1 cn1 3 (v1 (o1 b)) (-1) (o1 b)) lg n0 v0 x0 y0 o0 n1 v1 x1 y1 o1, 117, [(0, gr 21), (1, gi a), (2, gi b), (3, gi st)], [])
              refine G.go hX 3 (wrW (cn1 + 1) wst (wap rw1 cn1 3 (v1 (o1 b)) (-1) (o1 b)) lg n0 v0 x0 y0 o0 n1 v1 x1 y1 o1, 6, [(0, gr 21), (1, gi a), (2, gi (b + 1)), (3, gi (st + 1))], []) rfl trivial ?_
              exact ih6 a (b + 1) (st + 1) (cn1 + 1) (wap rw1 cn1 3 (v1 (o1 b)) (-1) (o1 b)) (l1 ++ [(3, v1 (o1 b), -1, o1 b)]) (by omega) (by omega) (by rw [List.length_append, hc1]; simp) (by exact wrl_app hr1 hc1) (by rw [hfu, wWk_new _ b40 b64 (by omega)] at hw1; rw [List.append_assoc]; exact hw1) (by exact wap_r hi1 ⟨by omega, by omega⟩ (hv _).2 ⟨by omega, by omega⟩ ⟨by omega, by omega⟩) (by omega)
            ·
              have b64 := gb_n0 b64
              have e0 := ho0 a (by omega) (by omega)
              refine G.go hX 5 (wrW cn1 wst rw1 lg n0 v0 x0 y0 o0 n1 v1 x1 y1 o1, 74, [(0, gr 21), (1, gi a), (2, gi b), (3, gi st)], [gi a, gr 11, gi 1, gr 21]) rfl trivial ?_
              refine G.callV (av := [gi a]) (o := 11) (st := [gi 1, gr 21]) hX rfl (fun l D cA => c_X6_valueAt_0 l D cA n0 v0 x0 y0 o0 a ⟨by omega, by omega, by omega, by omega⟩) (by decide +kernel) aX6_valueAt rfl rfl rfl ⟨rfl, rfl⟩ (by decide) (Nat.le_of_ble_eq_true rfl) [3, 4, 5, 6, 7] [0, 1, 2, 8, 9, 10, 11, 12] [(21, gob 6 [gi cn1, gi wst, gr 11, gr 16, gr 22, gr 23]), (22, gai 0 320 rw1), (23, gai 0 1681 lg), (16, gob 7 [gi n1, gr 17, gr 18, gr 19, gr 20]), (17, gai 0 40 v1), (18, gai 0 40 x1), (19, gai 0 40 y1), (20, gai 0 40 o1)] rfl rfl rfl (fun r w' hp => ?_)
              obtain ⟨rfl, rfl⟩ := hp
              refine G.perm (wrW cn1 wst rw1 lg n0 v0 x0 y0 o0 n1 v1 x1 y1 o1) [0, 1, 2, 8, 9, 10, 11, 12, 3, 4, 5, 6, 7] rfl rfl ?_
              show G X mX5_walk ad 0 0 (wrW cn1 wst rw1 lg n0 v0 x0 y0 o0 n1 v1 x1 y1 o1, 77, [(0, gr 21), (1, gi a), (2, gi b), (3, gi st)], [gi (v0 (o0 a)), gi 1, gr 21])
              refine G.go hX 3 (wrW cn1 wst rw1 lg n0 v0 x0 y0 o0 n1 v1 x1 y1 o1, 82, [(0, gr 21), (1, gi a), (2, gi b), (3, gi st)], [gi a, gr 11, gi (v0 (o0 a)), gi 1, gr 21]) rfl trivial ?_
              refine G.callV (av := [gi a]) (o := 11) (st := [gi (v0 (o0 a)), gi 1, gr 21]) hX rfl (fun l D cA => c_X6_numberAt_0 l D cA n0 v0 x0 y0 o0 a ⟨by omega, by omega⟩) (by decide +kernel) aX6_numberAt rfl rfl rfl ⟨rfl, rfl⟩ (by decide) (Nat.le_of_ble_eq_true rfl) [3, 4, 5, 6, 7] [0, 1, 2, 8, 9, 10, 11, 12] [(21, gob 6 [gi cn1, gi wst, gr 11, gr 16, gr 22, gr 23]), (22, gai 0 320 rw1), (23, gai 0 1681 lg), (16, gob 7 [gi n1, gr 17, gr 18, gr 19, gr 20]), (17, gai 0 40 v1), (18, gai 0 40 x1), (19, gai 0 40 y1), (20, gai 0 40 o1)] rfl rfl rfl (fun r w' hp => ?_)
              obtain ⟨rfl, rfl⟩ := hp
              refine G.perm (wrW cn1 wst rw1 lg n0 v0 x0 y0 o0 n1 v1 x1 y1 o1) [0, 1, 2, 8, 9, 10, 11, 12, 3, 4, 5, 6, 7] rfl rfl ?_
              show G X mX5_walk ad 0 0 (wrW cn1 wst rw1 lg n0 v0 x0 y0 o0 n1 v1 x1 y1 o1, 85, [(0, gr 21), (1, gi a), (2, gi b), (3, gi st)], [gi (o0 a), gi (v0 (o0 a)), gi 1, gr 21])
              refine G.go hX 1 (wrW cn1 wst rw1 lg n0 v0 x0 y0 o0 n1 v1 x1 y1 o1, 86, [(0, gr 21), (1, gi a), (2, gi b), (3, gi st)], [gi (-1), gi (o0 a), gi (v0 (o0 a)), gi 1, gr 21]) rfl trivial ?_
              refine G.callV (av := [gi 1, gi (v0 (o0 a)), gi (o0 a), gi (-1)]) (o := 21) (st := []) hX rfl (fun l D cA => c_X5_append l D cA cn1 wst rw1 lg n0 v0 x0 y0 o0 n1 v1 x1 y1 o1 1 (v0 (o0 a)) (o0 a) (-1) (by first | assumption | omega)) (by decide +kernel) aX5_append rfl rfl rfl ⟨rfl, rfl⟩ (by decide) (Nat.le_of_ble_eq_true rfl) [0, 1, 2, 3, 4, 5, 6, 7, 8, 9, 10, 11, 12] [] [] rfl rfl rfl (fun r w' hp => ?_)
              obtain ⟨rfl, rfl⟩ := hp
              show G X mX5_walk ad 0 0 (wrW (cn1 + 1) wst (wap rw1 cn1 1 (v0 (o0 a)) (o0 a) (-1)) lg n0 v0 x0 y0 o0 n1 v1 x1 y1 o1, 89, [(0, gr 21), (1, gi a), (2, gi b), (3, gi st)], [])
              refine G.go hX 4 (wrW (cn1 + 1) wst (wap rw1 cn1 1 (v0 (o0 a)) (o0 a) (-1)) lg n0 v0 x0 y0 o0 n1 v1 x1 y1 o1, 6, [(0, gr 21), (1, gi (a + 1)), (2, gi b), (3, gi (st + 1))], []) rfl trivial ?_
              exact ih6 (a + 1) b (st + 1) (cn1 + 1) (wap rw1 cn1 1 (v0 (o0 a)) (o0 a) (-1)) (l1 ++ [(1, v0 (o0 a), o0 a, -1)]) (by omega) (by omega) (by rw [List.length_append, hc1]; simp) (by exact wrl_app hr1 hc1) (by rw [hfu, wWk_gone _ b40 b64] at hw1; rw [List.append_assoc]; exact hw1) (by exact wap_r hi1 ⟨by omega, by omega⟩ (hv _).1 ⟨by omega, by omega⟩ ⟨by omega, by omega⟩) (by omega)
          ·
            have b40 := gb_n0 b40
            have e0 := ho0 a (by omega) (by omega)
            have e1 := ho1 b (by omega) (by omega)
            refine G.go hX 3 (wrW cn1 wst rw1 lg n0 v0 x0 y0 o0 n1 v1 x1 y1 o1, 46, [(0, gr 21), (1, gi a), (2, gi b), (3, gi st)], [gi b, gi a, gr 21]) rfl trivial ?_
            refine G.callV (av := [gi a, gi b]) (o := 21) (st := []) hX rfl (fun l D cA => c_X5_tellIfShifted l D cA cn1 wst rw1 lg n0 v0 x0 y0 o0 n1 v1 x1 y1 o1 a b (by first | assumption | omega) (by first | assumption | omega) (by first | assumption | omega) (by first | assumption | omega) ⟨by omega, by omega⟩ ⟨by omega, by omega⟩ (by first | assumption | omega)) (by decide +kernel) aX5_tellIfShifted rfl rfl rfl ⟨rfl, rfl⟩ (by decide) (Nat.le_of_ble_eq_true rfl) [0, 1, 2, 3, 4, 5, 6, 7, 8, 9, 10, 11, 12] [] [] rfl rfl rfl (fun r w' hp => ?_)
            obtain ⟨cn4, rw4, rfl, rfl, hk1, hk2⟩ := hp
            show G X mX5_walk ad 0 0 (wrW cn4 wst rw4 lg n0 v0 x0 y0 o0 n1 v1 x1 y1 o1, 49, [(0, gr 21), (1, gi a), (2, gi b), (3, gi st)], [])
            rcases Classical.em (x0 (o0 a) = x1 (o1 b) ∧ y0 (o0 a) = y1 (o1 b)) with hsm | hsm
            ·
              obtain ⟨h8, h9⟩ := hk1 hsm
              rw [h8, h9]
              show G X mX5_walk ad 0 0 (wrW cn1 wst rw1 lg n0 v0 x0 y0 o0 n1 v1 x1 y1 o1, 49, [(0, gr 21), (1, gi a), (2, gi b), (3, gi st)], [])
              refine G.go hX 5 (wrW cn1 wst rw1 lg n0 v0 x0 y0 o0 n1 v1 x1 y1 o1, 6, [(0, gr 21), (1, gi (a + 1)), (2, gi (b + 1)), (3, gi (st + 1))], []) rfl trivial ?_
              exact ih6 (a + 1) (b + 1) (st + 1) cn1 rw1 l1 (by omega) (by omega) (by exact hc1) (by exact hr1) (by rw [hfu, wWk_same _ b40.1 b40.2.1 b40.2.2 hsm] at hw1; exact hw1) (by exact hi1) (by omega)
            ·
              obtain ⟨h8, h9⟩ := hk2 hsm
              rw [h8, h9]
              show G X mX5_walk ad 0 0 (wrW (cn1 + 1) wst (wap rw1 cn1 4 (v0 (o0 a)) (o0 a) (o1 b)) lg n0 v0 x0 y0 o0 n1 v1 x1 y1 o1, 49, [(0, gr 21), (1, gi a), (2, gi b), (3, gi st)], [])
              refine G.go hX 5 (wrW (cn1 + 1) wst (wap rw1 cn1 4 (v0 (o0 a)) (o0 a) (o1 b)) lg n0 v0 x0 y0 o0 n1 v1 x1 y1 o1, 6, [(0, gr 21), (1, gi (a + 1)), (2, gi (b + 1)), (3, gi (st + 1))], []) rfl trivial ?_
              exact ih6 (a + 1) (b + 1) (st + 1) (cn1 + 1) (wap rw1 cn1 4 (v0 (o0 a)) (o0 a) (o1 b)) (l1 ++ [(4, v0 (o0 a), o0 a, o1 b)]) (by omega) (by omega) (by rw [List.length_append, hc1]; simp) (by exact wrl_app hr1 hc1) (by rw [hfu, wWk_shift _ b40.1 b40.2.1 b40.2.2 hsm] at hw1; rw [List.append_assoc]; exact hw1) (by exact wap_r hi1 ⟨by omega, by omega⟩ (hv _).1 ⟨by omega, by omega⟩ ⟨by omega, by omega⟩) (by omega)
        ·
          refine G.go hX 4 (wrW cn1 wst rw1 lg n0 v0 x0 y0 o0 n1 v1 x1 y1 o1, 31, [(0, gr 21), (1, gi a), (2, gi b), (3, gi st)], [gi n1, gi b]) rfl trivial ?_
          refine g_icmp_ge hX 126 rfl rfl ⟨by omega, by omega⟩ ⟨by omega, by omega⟩ (fun b31 => ?_) (fun b31 => ?_)
          ·
            have hfin : l1 = wWk n0 n1 (fun j => v0 (o0 j)) o0 (fun j => x0 (o0 j)) (fun j => y0 (o0 j)) (fun j => v1 (o1 j)) o1 (fun j => x1 (o1 j)) (fun j => y1 (o1 j)) (fun a b => lg (a * 41 + b)) 80 0 0 := by rw [← hw1, wWk_end (by omega) (by omega), List.append_nil]
            exact g_vret hX hE rfl ⟨cn1, rw1, rfl, rfl, by rw [← hfin]; exact hc1, by rw [← hfin]; exact hr1, hi1, by omega⟩
          ·
            have hfu : (80 - st).toNat = (80 - (st + 1)).toNat + 1 := by omega
            refine G.go hX 3 (wrW cn1 wst rw1 lg n0 v0 x0 y0 o0 n1 v1 x1 y1 o1, 37, [(0, gr 21), (1, gi a), (2, gi b), (3, gi st)], [gi b, gi a, gr 21]) rfl trivial ?_
            refine G.callV (av := [gi a, gi b]) (o := 21) (st := []) hX rfl (fun l D cA => c_X5_isKept l D cA cn1 wst rw1 lg n0 v0 x0 y0 o0 n1 v1 x1 y1 o1 a b (by first | assumption | omega) (by first | assumption | omega) (by first | assumption | omega) (by first | assumption | omega) (by first | assumption | omega) (by first | assumption | omega)) (by decide +kernel) aX5_isKept rfl rfl rfl ⟨rfl, rfl⟩ (by decide) (Nat.le_of_ble_eq_true rfl) [0, 1, 2, 3, 4, 5, 6, 7, 8, 9, 10, 11, 12] [] [] rfl rfl rfl (fun r w' hp => ?_)
            obtain ⟨rfl, rfl⟩ := hp
            show G X mX5_walk ad 0 0 (wrW cn1 wst rw1 lg n0 v0 x0 y0 o0 n1 v1 x1 y1 o1, 40, [(0, gr 21), (1, gi a), (2, gi b), (3, gi st)], [gi (gb (a < n0 ∧ b < n1 ∧ v0 (o0 a) = v1 (o1 b)))])
            refine g_if_eq hX 58 rfl rfl (gb_r _) (fun b40 => ?_) (fun b40 => ?_)
            ·
              have b40 := gb_0.mp b40
              refine G.go hX 3 (wrW cn1 wst rw1 lg n0 v0 x0 y0 o0 n1 v1 x1 y1 o1, 61, [(0, gr 21), (1, gi a), (2, gi b), (3, gi st)], [gi b, gi a, gr 21]) rfl trivial ?_
              refine G.callV (av := [gi a, gi b]) (o := 21) (st := []) hX rfl (fun l D cA => c_X5_isGone l D cA cn1 wst rw1 lg n0 v0 x0 y0 o0 n1 v1 x1 y1 o1 a b (by first | assumption | omega) (by first | assumption | omega) (by first | assumption | omega) (by first | assumption | omega)) (by decide +kernel) aX5_isGone rfl rfl rfl ⟨rfl, rfl⟩ (by decide) (Nat.le_of_ble_eq_true rfl) [0, 1, 2, 3, 4, 5, 6, 7, 8, 9, 10, 11, 12] [] [] rfl rfl rfl (fun r w' hp => ?_)
              obtain ⟨rfl, rfl⟩ := hp
              show G X mX5_walk ad 0 0 (wrW cn1 wst rw1 lg n0 v0 x0 y0 o0 n1 v1 x1 y1 o1, 64, [(0, gr 21), (1, gi a), (2, gi b), (3, gi st)], [gi (gb (a < n0 ∧ (n1 ≤ b ∨ lg (a * 41 + (b + 1)) ≤ lg ((a + 1) * 41 + b))))])
              refine g_if_eq hX 95 rfl rfl (gb_r _) (fun b64 => ?_) (fun b64 => ?_)
              ·
                have b64 := gb_0.mp b64
                have hb9 : b < n1 := by omega
                have e1 := ho1 b (by omega) (by omega)
                refine G.go hX 5 (wrW cn1 wst rw1 lg n0 v0 x0 y0 o0 n1 v1 x1 y1 o1, 102, [(0, gr 21), (1, gi a), (2, gi b), (3, gi st)], [gi b, gr 16, gi 3, gr 21]) rfl trivial ?_
                refine G.callV (av := [gi b]) (o := 16) (st := [gi 3, gr 21]) hX rfl (fun l D cA => c_X6_valueAt_1 l D cA n1 v1 x1 y1 o1 b ⟨by omega, by omega, by omega, by omega⟩) (by decide +kernel) aX6_valueAt rfl rfl rfl ⟨rfl, rfl⟩ (by decide) (Nat.le_of_ble_eq_true rfl) [8, 9, 10, 11, 12] [0, 1, 2, 3, 4, 5, 6, 7] [(21, gob 6 [gi cn1, gi wst, gr 11, gr 16, gr 22, gr 23]), (22, gai 0 320 rw1), (23, gai 0 1681 lg), (11, gob 7 [gi n0, gr 12, gr 13, gr 14, gr 15]), (12, gai 0 40 v0), (13, gai 0 40 x0), (14, gai 0 40 y0), (15, gai 0 40 o0)] rfl rfl rfl (fun r w' hp => ?_)
                obtain ⟨rfl, rfl⟩ := hp
                refine G.perm (wrW cn1 wst rw1 lg n0 v0 x0 y0 o0 n1 v1 x1 y1 o1) [0, 1, 2, 3, 4, 5, 6, 7, 8, 9, 10, 11, 12] rfl rfl ?_
                show G X mX5_walk ad 0 0 (wrW cn1 wst rw1 lg n0 v0 x0 y0 o0 n1 v1 x1 y1 o1, 105, [(0, gr 21), (1, gi a), (2, gi b), (3, gi st)], [gi (v1 (o1 b)), gi 3, gr 21])
                refine G.go hX 4 (wrW cn1 wst rw1 lg n0 v0 x0 y0 o0 n1 v1 x1 y1 o1, 111, [(0, gr 21), (1, gi a), (2, gi b), (3, gi st)], [gi b, gr 16, gi (-1), gi (v1 (o1 b)), gi 3, gr 21]) rfl trivial ?_
                refine G.callV (av := [gi b]) (o := 16) (st := [gi (-1), gi (v1 (o1 b)), gi 3, gr 21]) hX rfl (fun l D cA => c_X6_numberAt_1 l D cA n1 v1 x1 y1 o1 b ⟨by omega, by omega⟩) (by decide +kernel) aX6_numberAt rfl rfl rfl ⟨rfl, rfl⟩ (by decide) (Nat.le_of_ble_eq_true rfl) [8, 9, 10, 11, 12] [0, 1, 2, 3, 4, 5, 6, 7] [(21, gob 6 [gi cn1, gi wst, gr 11, gr 16, gr 22, gr 23]), (22, gai 0 320 rw1), (23, gai 0 1681 lg), (11, gob 7 [gi n0, gr 12, gr 13, gr 14, gr 15]), (12, gai 0 40 v0), (13, gai 0 40 x0), (14, gai 0 40 y0), (15, gai 0 40 o0)] rfl rfl rfl (fun r w' hp => ?_)
                obtain ⟨rfl, rfl⟩ := hp
                refine G.perm (wrW cn1 wst rw1 lg n0 v0 x0 y0 o0 n1 v1 x1 y1 o1) [0, 1, 2, 3, 4, 5, 6, 7, 8, 9, 10, 11, 12] rfl rfl ?_
                show G X mX5_walk ad 0 0 (wrW cn1 wst rw1 lg n0 v0 x0 y0 o0 n1 v1 x1 y1 o1, 114, [(0, gr 21), (1, gi a), (2, gi b), (3, gi st)], [gi (o1 b), gi (-1), gi (v1 (o1 b)), gi 3, gr 21])
                refine G.callV (av := [gi 3, gi (v1 (o1 b)), gi (-1), gi (o1 b)]) (o := 21) (st := []) hX rfl (fun l D cA => c_X5_append l D cA cn1 wst rw1 lg n0 v0 x0 y0 o0 n1 v1 x1 y1 o1 3 (v1 (o1 b)) (-1) (o1 b) (by first | assumption | omega)) (by decide +kernel) aX5_append rfl rfl rfl ⟨rfl, rfl⟩ (by decide) (Nat.le_of_ble_eq_true rfl) [0, 1, 2, 3, 4, 5, 6, 7, 8, 9, 10, 11, 12] [] [] rfl rfl rfl (fun r w' hp => ?_)
                obtain ⟨rfl, rfl⟩ := hp
                show G X mX5_walk ad 0 0 (wrW (cn1 + 1) wst (wap rw1 cn1 3 (v1 (o1 b)) (-1) (o1 b)) lg n0 v0 x0 y0 o0 n1 v1 x1 y1 o1, 117, [(0, gr 21), (1, gi a), (2, gi b), (3, gi st)], [])
                refine G.go hX 3 (wrW (cn1 + 1) wst (wap rw1 cn1 3 (v1 (o1 b)) (-1) (o1 b)) lg n0 v0 x0 y0 o0 n1 v1 x1 y1 o1, 6, [(0, gr 21), (1, gi a), (2, gi (b + 1)), (3, gi (st + 1))], []) rfl trivial ?_
                exact ih6 a (b + 1) (st + 1) (cn1 + 1) (wap rw1 cn1 3 (v1 (o1 b)) (-1) (o1 b)) (l1 ++ [(3, v1 (o1 b), -1, o1 b)]) (by omega) (by omega) (by rw [List.length_append, hc1]; simp) (by exact wrl_app hr1 hc1) (by rw [hfu, wWk_new _ b40 b64 (by omega)] at hw1; rw [List.append_assoc]; exact hw1) (by exact wap_r hi1 ⟨by omega, by omega⟩ (hv _).2 ⟨by omega, by omega⟩ ⟨by omega, by omega⟩) (by omega)
              ·
                have b64 := gb_n0 b64
                have e0 := ho0 a (by omega) (by omega)
                refine G.go hX 5 (wrW cn1 wst rw1 lg n0 v0 x0 y0 o0 n1 v1 x1 y1 o1, 74, [(0, gr 21), (1, gi a), (2, gi b), (3, gi st)], [gi a, gr 11, gi 1, gr 21]) rfl trivial ?_
                refine G.callV (av := [gi a]) (o := 11) (st := [gi 1, gr 21]) hX rfl (fun l D cA => c_X6_valueAt_0 l D cA n0 v0 x0 y0 o0 a ⟨by omega, by omega, by omega, by omega⟩) (by decide +kernel) aX6_valueAt rfl rfl rfl ⟨rfl, rfl⟩ (by decide) (Nat.le_of_ble_eq_true rfl) [3, 4, 5, 6, 7] [0, 1, 2, 8, 9, 10, 11, 12] [(21, gob 6 [gi cn1, gi wst, gr 11, gr 16, gr 22, gr 23]), (22, gai 0 320 rw1), (23, gai 0 1681 lg), (16, gob 7 [gi n1, gr 17, gr 18, gr 19, gr 20]), (17, gai 0 40 v1), (18, gai 0 40 x1), (19, gai 0 40 y1), (20, gai 0 40 o1)] rfl rfl rfl (fun r w' hp => ?_)
                obtain ⟨rfl, rfl⟩ := hp
                refine G.perm (wrW cn1 wst rw1 lg n0 v0 x0 y0 o0 n1 v1 x1 y1 o1) [0, 1, 2, 8, 9, 10, 11, 12, 3, 4, 5, 6, 7] rfl rfl ?_
                show G X mX5_walk ad 0 0 (wrW cn1 wst rw1 lg n0 v0 x0 y0 o0 n1 v1 x1 y1 o1, 77, [(0, gr 21), (1, gi a), (2, gi b), (3, gi st)], [gi (v0 (o0 a)), gi 1, gr 21])
                refine G.go hX 3 (wrW cn1 wst rw1 lg n0 v0 x0 y0 o0 n1 v1 x1 y1 o1, 82, [(0, gr 21), (1, gi a), (2, gi b), (3, gi st)], [gi a, gr 11, gi (v0 (o0 a)), gi 1, gr 21]) rfl trivial ?_
                refine G.callV (av := [gi a]) (o := 11) (st := [gi (v0 (o0 a)), gi 1, gr 21]) hX rfl (fun l D cA => c_X6_numberAt_0 l D cA n0 v0 x0 y0 o0 a ⟨by omega, by omega⟩) (by decide +kernel) aX6_numberAt rfl rfl rfl ⟨rfl, rfl⟩ (by decide) (Nat.le_of_ble_eq_true rfl) [3, 4, 5, 6, 7] [0, 1, 2, 8, 9, 10, 11, 12] [(21, gob 6 [gi cn1, gi wst, gr 11, gr 16, gr 22, gr 23]), (22, gai 0 320 rw1), (23, gai 0 1681 lg), (16, gob 7 [gi n1, gr 17, gr 18, gr 19, gr 20]), (17, gai 0 40 v1), (18, gai 0 40 x1), (19, gai 0 40 y1), (20, gai 0 40 o1)] rfl rfl rfl (fun r w' hp => ?_)
                obtain ⟨rfl, rfl⟩ := hp
                refine G.perm (wrW cn1 wst rw1 lg n0 v0 x0 y0 o0 n1 v1 x1 y1 o1) [0, 1, 2, 8, 9, 10, 11, 12, 3, 4, 5, 6, 7] rfl rfl ?_
                show G X mX5_walk ad 0 0 (wrW cn1 wst rw1 lg n0 v0 x0 y0 o0 n1 v1 x1 y1 o1, 85, [(0, gr 21), (1, gi a), (2, gi b), (3, gi st)], [gi (o0 a), gi (v0 (o0 a)), gi 1, gr 21])
                refine G.go hX 1 (wrW cn1 wst rw1 lg n0 v0 x0 y0 o0 n1 v1 x1 y1 o1, 86, [(0, gr 21), (1, gi a), (2, gi b), (3, gi st)], [gi (-1), gi (o0 a), gi (v0 (o0 a)), gi 1, gr 21]) rfl trivial ?_
                refine G.callV (av := [gi 1, gi (v0 (o0 a)), gi (o0 a), gi (-1)]) (o := 21) (st := []) hX rfl (fun l D cA => c_X5_append l D cA cn1 wst rw1 lg n0 v0 x0 y0 o0 n1 v1 x1 y1 o1 1 (v0 (o0 a)) (o0 a) (-1) (by first | assumption | omega)) (by decide +kernel) aX5_append rfl rfl rfl ⟨rfl, rfl⟩ (by decide) (Nat.le_of_ble_eq_true rfl) [0, 1, 2, 3, 4, 5, 6, 7, 8, 9, 10, 11, 12] [] [] rfl rfl rfl (fun r w' hp => ?_)
                obtain ⟨rfl, rfl⟩ := hp
                show G X mX5_walk ad 0 0 (wrW (cn1 + 1) wst (wap rw1 cn1 1 (v0 (o0 a)) (o0 a) (-1)) lg n0 v0 x0 y0 o0 n1 v1 x1 y1 o1, 89, [(0, gr 21), (1, gi a), (2, gi b), (3, gi st)], [])
                refine G.go hX 4 (wrW (cn1 + 1) wst (wap rw1 cn1 1 (v0 (o0 a)) (o0 a) (-1)) lg n0 v0 x0 y0 o0 n1 v1 x1 y1 o1, 6, [(0, gr 21), (1, gi (a + 1)), (2, gi b), (3, gi (st + 1))], []) rfl trivial ?_
                exact ih6 (a + 1) b (st + 1) (cn1 + 1) (wap rw1 cn1 1 (v0 (o0 a)) (o0 a) (-1)) (l1 ++ [(1, v0 (o0 a), o0 a, -1)]) (by omega) (by omega) (by rw [List.length_append, hc1]; simp) (by exact wrl_app hr1 hc1) (by rw [hfu, wWk_gone _ b40 b64] at hw1; rw [List.append_assoc]; exact hw1) (by exact wap_r hi1 ⟨by omega, by omega⟩ (hv _).1 ⟨by omega, by omega⟩ ⟨by omega, by omega⟩) (by omega)
            ·
              have b40 := gb_n0 b40
              have e0 := ho0 a (by omega) (by omega)
              have e1 := ho1 b (by omega) (by omega)
              refine G.go hX 3 (wrW cn1 wst rw1 lg n0 v0 x0 y0 o0 n1 v1 x1 y1 o1, 46, [(0, gr 21), (1, gi a), (2, gi b), (3, gi st)], [gi b, gi a, gr 21]) rfl trivial ?_
              refine G.callV (av := [gi a, gi b]) (o := 21) (st := []) hX rfl (fun l D cA => c_X5_tellIfShifted l D cA cn1 wst rw1 lg n0 v0 x0 y0 o0 n1 v1 x1 y1 o1 a b (by first | assumption | omega) (by first | assumption | omega) (by first | assumption | omega) (by first | assumption | omega) ⟨by omega, by omega⟩ ⟨by omega, by omega⟩ (by first | assumption | omega)) (by decide +kernel) aX5_tellIfShifted rfl rfl rfl ⟨rfl, rfl⟩ (by decide) (Nat.le_of_ble_eq_true rfl) [0, 1, 2, 3, 4, 5, 6, 7, 8, 9, 10, 11, 12] [] [] rfl rfl rfl (fun r w' hp => ?_)
              obtain ⟨cn4, rw4, rfl, rfl, hk1, hk2⟩ := hp
              show G X mX5_walk ad 0 0 (wrW cn4 wst rw4 lg n0 v0 x0 y0 o0 n1 v1 x1 y1 o1, 49, [(0, gr 21), (1, gi a), (2, gi b), (3, gi st)], [])
              rcases Classical.em (x0 (o0 a) = x1 (o1 b) ∧ y0 (o0 a) = y1 (o1 b)) with hsm | hsm
              ·
                obtain ⟨h8, h9⟩ := hk1 hsm
                rw [h8, h9]
                show G X mX5_walk ad 0 0 (wrW cn1 wst rw1 lg n0 v0 x0 y0 o0 n1 v1 x1 y1 o1, 49, [(0, gr 21), (1, gi a), (2, gi b), (3, gi st)], [])
                refine G.go hX 5 (wrW cn1 wst rw1 lg n0 v0 x0 y0 o0 n1 v1 x1 y1 o1, 6, [(0, gr 21), (1, gi (a + 1)), (2, gi (b + 1)), (3, gi (st + 1))], []) rfl trivial ?_
                exact ih6 (a + 1) (b + 1) (st + 1) cn1 rw1 l1 (by omega) (by omega) (by exact hc1) (by exact hr1) (by rw [hfu, wWk_same _ b40.1 b40.2.1 b40.2.2 hsm] at hw1; exact hw1) (by exact hi1) (by omega)
              ·
                obtain ⟨h8, h9⟩ := hk2 hsm
                rw [h8, h9]
                show G X mX5_walk ad 0 0 (wrW (cn1 + 1) wst (wap rw1 cn1 4 (v0 (o0 a)) (o0 a) (o1 b)) lg n0 v0 x0 y0 o0 n1 v1 x1 y1 o1, 49, [(0, gr 21), (1, gi a), (2, gi b), (3, gi st)], [])
                refine G.go hX 5 (wrW (cn1 + 1) wst (wap rw1 cn1 4 (v0 (o0 a)) (o0 a) (o1 b)) lg n0 v0 x0 y0 o0 n1 v1 x1 y1 o1, 6, [(0, gr 21), (1, gi (a + 1)), (2, gi (b + 1)), (3, gi (st + 1))], []) rfl trivial ?_
                exact ih6 (a + 1) (b + 1) (st + 1) (cn1 + 1) (wap rw1 cn1 4 (v0 (o0 a)) (o0 a) (o1 b)) (l1 ++ [(4, v0 (o0 a), o0 a, o1 b)]) (by omega) (by omega) (by rw [List.length_append, hc1]; simp) (by exact wrl_app hr1 hc1) (by rw [hfu, wWk_shift _ b40.1 b40.2.1 b40.2.2 hsm] at hw1; rw [List.append_assoc]; exact hw1) (by exact wap_r hi1 ⟨by omega, by omega⟩ (hv _).1 ⟨by omega, by omega⟩ ⟨by omega, by omega⟩) (by omega)
  exact lp6 _ 0 0 0 cn rwx ([]) (by omega) (by omega) (by simp [hc0]) (by intro i q h9; simp at h9) (by rfl) (by exact hrw) (Nat.lt_succ_self _)
set_option maxHeartbeats 4000000 in
set_option maxRecDepth 100000 in
theorem c_X5_pairWithFirstNew (l : Launch) (D : va_G) (cA : Nat → ClassId) (cn : Int) (wst : Int) (rwx : Int → Int) (lg : Int → Int) (n0 : Int) (v0 : Int → Int) (x0 : Int → Int) (y0 : Int → Int) (o0 : Int → Int) (n1 : Int) (v1 : Int → Int) (x1 : Int → Int) (y1 : Int → Int) (o1 : Int → Int) (g : Int) (hcn : 0 ≤ cn ∧ cn ≤ 80) (hrw : ∀ q : Int, inR (rwx q)) (hg : 0 ≤ g ∧ g < cn) (h1 : rwx (g * 4 + 0) = 1) :
    gC l D cA yX5_pairWithFirstNew mX5_pairWithFirstNew none 0 0 [gr 21, gi g] (wrW cn wst rwx lg n0 v0 x0 y0 o0 n1 v1 x1 y1 o1) (fun r9 w9 => r9 = none ∧ w9 = wrW cn wst (wp1 cn.toNat rwx g) lg n0 v0 x0 y0 o0 n1 v1 x1 y1 o1) := by
  refine gC_of rfl kX5_pairWithFirstNew rfl rfl (Nat.le_of_ble_eq_true rfl) (fun X ad hX hE => ?_)
  refine G.go hX 2 (wrW cn wst rwx lg n0 v0 x0 y0 o0 n1 v1 x1 y1 o1, 2, [(0, gr 21), (1, gi g), (2, gi 0)], []) rfl trivial ?_
  have lp2 : ∀ (n : Nat) (i : Int), (0 ≤ i ∧ i ≤ cn) → (wfi rwx (rwx (g * 4 + 1)) cn.toNat 0 = wfi rwx (rwx (g * 4 + 1)) (cn - i).toNat i) → (cn - i).toNat < n → G X mX5_pairWithFirstNew ad 0 0 (wrW cn wst rwx lg n0 v0 x0 y0 o0 n1 v1 x1 y1 o1, 2, [(0, gr 21), (1, gi g), (2, gi i)], []) := by
    intro n
    induction n with
    | zero => intro i hi hf hm9; exact absurd hm9 (Nat.not_lt_zero _)
    | succ n ih2 =>
      intro i hi hf hm2
      refine G.go hX 3 (wrW cn wst rwx lg n0 v0 x0 y0 o0 n1 v1 x1 y1 o1, 7, [(0, gr 21), (1, gi g), (2, gi i)], [gi cn, gi i]) rfl trivial ?_
      refine g_icmp_ge hX 80 rfl rfl ⟨by omega, by omega⟩ ⟨by omega, by omega⟩ (fun b7 => ?_) (fun b7 => ?_)
      ·
        have hfi : wfi rwx (rwx (g * 4 + 1)) cn.toNat 0 = -1 := by (rw [hf, show (cn - i).toNat = 0 by omega]; rfl)
        exact g_vret hX hE rfl ⟨rfl, by (unfold wp1; rw [if_pos h1, hfi, if_pos (by omega)])⟩
      ·
        refine G.go hX 3 (wrW cn wst rwx lg n0 v0 x0 y0 o0 n1 v1 x1 y1 o1, 13, [(0, gr 21), (1, gi g), (2, gi i)], [gi 0, gi i, gr 21]) rfl trivial ?_
        refine G.callV (av := [gi i, gi 0]) (o := 21) (st := []) hX rfl (fun l D cA => c_X5_tell l D cA cn wst rwx lg n0 v0 x0 y0 o0 n1 v1 x1 y1 o1 i 0 (by first | assumption | omega)) (by decide +kernel) aX5_tell rfl rfl rfl ⟨rfl, rfl⟩ (by decide) (Nat.le_of_ble_eq_true rfl) [0, 1, 2, 3, 4, 5, 6, 7, 8, 9, 10, 11, 12] [] [] rfl rfl rfl (fun r w' hp => ?_)
        obtain ⟨rfl, rfl⟩ := hp
        show G X mX5_pairWithFirstNew ad 0 0 (wrW cn wst rwx lg n0 v0 x0 y0 o0 n1 v1 x1 y1 o1, 16, [(0, gr 21), (1, gi g), (2, gi i)], [gi (rwx (i * 4 + 0))])
        refine G.go hX 1 (wrW cn wst rwx lg n0 v0 x0 y0 o0 n1 v1 x1 y1 o1, 17, [(0, gr 21), (1, gi g), (2, gi i)], [gi 3, gi (rwx (i * 4 + 0))]) rfl trivial ?_
        refine g_icmp_ne hX 74 rfl rfl (by first | exact hrw _ | exact ⟨by omega, by omega⟩) (by first | exact hrw _ | exact ⟨by omega, by omega⟩) (fun b17 => ?_) (fun b17 => ?_)
        ·
          refine G.go hX 2 (wrW cn wst rwx lg n0 v0 x0 y0 o0 n1 v1 x1 y1 o1, 2, [(0, gr 21), (1, gi g), (2, gi (i + 1))], []) rfl trivial ?_
          exact ih2 (i + 1) (by omega) (by rw [hf]; exact wfi_s (by omega) (by omega)) (by omega)
        ·
          refine G.go hX 3 (wrW cn wst rwx lg n0 v0 x0 y0 o0 n1 v1 x1 y1 o1, 23, [(0, gr 21), (1, gi g), (2, gi i)], [gi 1, gi i, gr 21]) rfl trivial ?_
          refine G.callV (av := [gi i, gi 1]) (o := 21) (st := []) hX rfl (fun l D cA => c_X5_tell l D cA cn wst rwx lg n0 v0 x0 y0 o0 n1 v1 x1 y1 o1 i 1 (by first | assumption | omega)) (by decide +kernel) aX5_tell rfl rfl rfl ⟨rfl, rfl⟩ (by decide) (Nat.le_of_ble_eq_true rfl) [0, 1, 2, 3, 4, 5, 6, 7, 8, 9, 10, 11, 12] [] [] rfl rfl rfl (fun r w' hp => ?_)
          obtain ⟨rfl, rfl⟩ := hp
          show G X mX5_pairWithFirstNew ad 0 0 (wrW cn wst rwx lg n0 v0 x0 y0 o0 n1 v1 x1 y1 o1, 26, [(0, gr 21), (1, gi g), (2, gi i)], [gi (rwx (i * 4 + 1))])
          refine G.go hX 3 (wrW cn wst rwx lg n0 v0 x0 y0 o0 n1 v1 x1 y1 o1, 29, [(0, gr 21), (1, gi g), (2, gi i)], [gi 1, gi g, gr 21, gi (rwx (i * 4 + 1))]) rfl trivial ?_
          refine G.callV (av := [gi g, gi 1]) (o := 21) (st := [gi (rwx (i * 4 + 1))]) hX rfl (fun l D cA => c_X5_tell l D cA cn wst rwx lg n0 v0 x0 y0 o0 n1 v1 x1 y1 o1 g 1 (by first | assumption | omega)) (by decide +kernel) aX5_tell rfl rfl rfl ⟨rfl, rfl⟩ (by decide) (Nat.le_of_ble_eq_true rfl) [0, 1, 2, 3, 4, 5, 6, 7, 8, 9, 10, 11, 12] [] [] rfl rfl rfl (fun r w' hp => ?_)
          obtain ⟨rfl, rfl⟩ := hp
          show G X mX5_pairWithFirstNew ad 0 0 (wrW cn wst rwx lg n0 v0 x0 y0 o0 n1 v1 x1 y1 o1, 32, [(0, gr 21), (1, gi g), (2, gi i)], [gi (rwx (g * 4 + 1)), gi (rwx (i * 4 + 1))])
          refine g_icmp_ne hX 74 rfl rfl (hrw _) (hrw _) (fun b32 => ?_) (fun b32 => ?_)
          ·
            refine G.go hX 2 (wrW cn wst rwx lg n0 v0 x0 y0 o0 n1 v1 x1 y1 o1, 2, [(0, gr 21), (1, gi g), (2, gi (i + 1))], []) rfl trivial ?_
            exact ih2 (i + 1) (by omega) (by rw [hf]; exact wfi_s (by omega) (by omega)) (by omega)
          ·
            have hfi : wfi rwx (rwx (g * 4 + 1)) cn.toNat 0 = i := by rw [hf]; exact wfi_f (by omega) ⟨by omega, by omega⟩
            refine G.go hX 19 (wrW cn wst (gu rwx ((g * 4) + 0) 2) lg n0 v0 x0 y0 o0 n1 v1 x1 y1 o1, 58, [(0, gr 21), (1, gi g), (2, gi i)], [gi 3, gi i, gr 21, gi ((g * 4) + 3), gr 22]) rfl ?_ ?_
            · refine ⟨?_, trivial⟩
              · omega
            refine G.callV (av := [gi i, gi 3]) (o := 21) (st := [gi ((g * 4) + 3), gr 22]) hX rfl (fun l D cA => c_X5_tell l D cA cn wst (gu rwx ((g * 4) + 0) 2) lg n0 v0 x0 y0 o0 n1 v1 x1 y1 o1 i 3 (by first | assumption | omega)) (by decide +kernel) aX5_tell rfl rfl rfl ⟨rfl, rfl⟩ (by decide) (Nat.le_of_ble_eq_true rfl) [0, 1, 2, 3, 4, 5, 6, 7, 8, 9, 10, 11, 12] [] [] rfl rfl rfl (fun r w' hp => ?_)
            obtain ⟨rfl, rfl⟩ := hp
            show G X mX5_pairWithFirstNew ad 0 0 (wrW cn wst (gu rwx ((g * 4) + 0) 2) lg n0 v0 x0 y0 o0 n1 v1 x1 y1 o1, 61, [(0, gr 21), (1, gi g), (2, gi i)], [gi ((gu rwx ((g * 4) + 0) 2) (i * 4 + 3)), gi ((g * 4) + 3), gr 22])
            refine G.go hX 10 (wrW cn wst (gu (gu (gu rwx ((g * 4) + 0) 2) ((g * 4) + 3) ((gu rwx ((g * 4) + 0) 2) (i * 4 + 3))) ((i * 4) + 0) 0) lg n0 v0 x0 y0 o0 n1 v1 x1 y1 o1, 73, [(0, gr 21), (1, gi g), (2, gi i)], []) rfl ?_ ?_
            · refine ⟨?_, ?_, trivial⟩
              · omega
              · omega
            exact g_vret hX hE rfl ⟨rfl, by (unfold wp1; rw [if_pos h1, hfi, if_neg (by omega)]; unfold wmv; rw [gu_n rwx (k := g * 4 + 0) (j := i * 4 + 3) 2 (by omega)])⟩
  exact lp2 _ 0 (by omega) (by rw [show (cn - 0).toNat = cn.toNat by omega]) (Nat.lt_succ_self _)
set_option maxHeartbeats 4000000 in
set_option maxRecDepth 100000 in
theorem c_X5_pairMoved (l : Launch) (D : va_G) (cA : Nat → ClassId) (cn : Int) (wst : Int) (rwx : Int → Int) (lg : Int → Int) (n0 : Int) (v0 : Int → Int) (x0 : Int → Int) (y0 : Int → Int) (o0 : Int → Int) (n1 : Int) (v1 : Int → Int) (x1 : Int → Int) (y1 : Int → Int) (o1 : Int → Int) (hcn : 0 ≤ cn ∧ cn ≤ 80) (hrw : ∀ q : Int, inR (rwx q)) :
    gC l D cA yX5_pairMoved mX5_pairMoved none 0 0 [gr 21] (wrW cn wst rwx lg n0 v0 x0 y0 o0 n1 v1 x1 y1 o1) (fun r9 w9 => r9 = none ∧ w9 = wrW cn wst (wpr cn.toNat rwx cn.toNat) lg n0 v0 x0 y0 o0 n1 v1 x1 y1 o1) := by
  refine gC_of rfl kX5_pairMoved rfl rfl (Nat.le_of_ble_eq_true rfl) (fun X ad hX hE => ?_)
  refine G.go hX 2 (wrW cn wst rwx lg n0 v0 x0 y0 o0 n1 v1 x1 y1 o1, 2, [(0, gr 21), (1, gi 0)], []) rfl trivial ?_
  have lp2 : ∀ (n : Nat) (g : Int) (rw1 : Int → Int), (0 ≤ g ∧ g ≤ cn) → (rw1 = wpr cn.toNat rwx g.toNat) → (cn - g).toNat < n → G X mX5_pairMoved ad 0 0 (wrW cn wst rw1 lg n0 v0 x0 y0 o0 n1 v1 x1 y1 o1, 2, [(0, gr 21), (1, gi g)], []) := by
    intro n
    induction n with
    | zero => intro g rw1 hg hr hm9; exact absurd hm9 (Nat.not_lt_zero _)
    | succ n ih2 =>
      intro g rw1 hg hr hm2
      have hr1 : ∀ q : Int, inR (rw1 q) := by (rw [hr]; exact wpr_r hrw _ _)
      refine G.go hX 3 (wrW cn wst rw1 lg n0 v0 x0 y0 o0 n1 v1 x1 y1 o1, 7, [(0, gr 21), (1, gi g)], [gi cn, gi g]) rfl trivial ?_
      refine g_icmp_ge hX 31 rfl rfl ⟨by omega, by omega⟩ ⟨by omega, by omega⟩ (fun b7 => ?_) (fun b7 => ?_)
      ·
        exact g_vret hX hE rfl ⟨rfl, (by first | rfl | (rw [hr, show g = cn by omega]))⟩
      ·
        refine G.go hX 3 (wrW cn wst rw1 lg n0 v0 x0 y0 o0 n1 v1 x1 y1 o1, 13, [(0, gr 21), (1, gi g)], [gi 0, gi g, gr 21]) rfl trivial ?_
        refine G.callV (av := [gi g, gi 0]) (o := 21) (st := []) hX rfl (fun l D cA => c_X5_tell l D cA cn wst rw1 lg n0 v0 x0 y0 o0 n1 v1 x1 y1 o1 g 0 (by first | assumption | omega)) (by decide +kernel) aX5_tell rfl rfl rfl ⟨rfl, rfl⟩ (by decide) (Nat.le_of_ble_eq_true rfl) [0, 1, 2, 3, 4, 5, 6, 7, 8, 9, 10, 11, 12] [] [] rfl rfl rfl (fun r w' hp => ?_)
        obtain ⟨rfl, rfl⟩ := hp
        show G X mX5_pairMoved ad 0 0 (wrW cn wst rw1 lg n0 v0 x0 y0 o0 n1 v1 x1 y1 o1, 16, [(0, gr 21), (1, gi g)], [gi (rw1 (g * 4 + 0))])
        refine G.go hX 1 (wrW cn wst rw1 lg n0 v0 x0 y0 o0 n1 v1 x1 y1 o1, 17, [(0, gr 21), (1, gi g)], [gi 1, gi (rw1 (g * 4 + 0))]) rfl trivial ?_
        refine g_icmp_ne hX 25 rfl rfl (by first | exact hr1 _ | exact ⟨by omega, by omega⟩) (by first | exact hr1 _ | exact ⟨by omega, by omega⟩) (fun b17 => ?_) (fun b17 => ?_)
        ·
          refine G.go hX 2 (wrW cn wst rw1 lg n0 v0 x0 y0 o0 n1 v1 x1 y1 o1, 2, [(0, gr 21), (1, gi (g + 1))], []) rfl trivial ?_
          exact ih2 (g + 1) rw1 (by omega) (by rw [show (g + 1).toNat = g.toNat + 1 by omega]; show rw1 = wp1 cn.toNat (wpr cn.toNat rwx g.toNat) ((g.toNat : Nat) : Int); rw [← hr, show ((g.toNat : Nat) : Int) = g by omega]; unfold wp1; rw [if_neg b17]) (by omega)
        ·
          refine G.go hX 2 (wrW cn wst rw1 lg n0 v0 x0 y0 o0 n1 v1 x1 y1 o1, 22, [(0, gr 21), (1, gi g)], [gi g, gr 21]) rfl trivial ?_
          refine G.callV (av := [gi g]) (o := 21) (st := []) hX rfl (fun l D cA => c_X5_pairWithFirstNew l D cA cn wst rw1 lg n0 v0 x0 y0 o0 n1 v1 x1 y1 o1 g (by first | assumption | omega) hr1 ⟨by omega, by omega⟩ (by omega)) (by decide +kernel) aX5_pairWithFirstNew rfl rfl rfl ⟨rfl, rfl⟩ (by decide) (Nat.le_of_ble_eq_true rfl) [0, 1, 2, 3, 4, 5, 6, 7, 8, 9, 10, 11, 12] [] [] rfl rfl rfl (fun r w' hp => ?_)
          obtain ⟨rfl, rfl⟩ := hp
          show G X mX5_pairMoved ad 0 0 (wrW cn wst (wp1 cn.toNat rw1 g) lg n0 v0 x0 y0 o0 n1 v1 x1 y1 o1, 25, [(0, gr 21), (1, gi g)], [])
          refine G.go hX 2 (wrW cn wst (wp1 cn.toNat rw1 g) lg n0 v0 x0 y0 o0 n1 v1 x1 y1 o1, 2, [(0, gr 21), (1, gi (g + 1))], []) rfl trivial ?_
          exact ih2 (g + 1) (wp1 cn.toNat rw1 g) (by omega) (by rw [show (g + 1).toNat = g.toNat + 1 by omega]; show wp1 cn.toNat rw1 g = wp1 cn.toNat (wpr cn.toNat rwx g.toNat) ((g.toNat : Nat) : Int); rw [← hr, show ((g.toNat : Nat) : Int) = g by omega]) (by omega)
  exact lp2 _ 0 rwx (by omega) (by rfl) (Nat.lt_succ_self _)
set_option maxHeartbeats 4000000 in
set_option maxRecDepth 100000 in
theorem c_X5_dropUntold (l : Launch) (D : va_G) (cA : Nat → ClassId) (cn : Int) (wst : Int) (rwx : Int → Int) (lg : Int → Int) (n0 : Int) (v0 : Int → Int) (x0 : Int → Int) (y0 : Int → Int) (o0 : Int → Int) (n1 : Int) (v1 : Int → Int) (x1 : Int → Int) (y1 : Int → Int) (o1 : Int → Int) (hcn : 0 ≤ cn ∧ cn ≤ 80) (hrw : ∀ q : Int, inR (rwx q)) :
    gC l D cA yX5_dropUntold mX5_dropUntold none 0 0 [gr 21] (wrW cn wst rwx lg n0 v0 x0 y0 o0 n1 v1 x1 y1 o1) (fun r9 w9 => ∃ (cn2 : Int) (rw2 : Int → Int), r9 = none ∧ w9 = wrW cn2 wst rw2 lg n0 v0 x0 y0 o0 n1 v1 x1 y1 o1 ∧ (wDr rwx rw2 cn cn2) ∧ (0 ≤ cn2 ∧ cn2 ≤ cn) ∧ (∀ q : Int, inR (rw2 q))) := by
  refine gC_of rfl kX5_dropUntold rfl rfl (Nat.le_of_ble_eq_true rfl) (fun X ad hX hE => ?_)
  refine G.go hX 4 (wrW cn wst rwx lg n0 v0 x0 y0 o0 n1 v1 x1 y1 o1, 4, [(0, gr 21), (1, gi 0), (2, gi 0)], []) rfl trivial ?_
  have lp4 : ∀ (n : Nat) (kp : Int) (i : Int) (rw1 : Int → Int), (0 ≤ i ∧ i ≤ cn) → (wDr rwx rw1 i kp) → (∀ q : Int, inR (rw1 q)) → (cn - i).toNat < n → G X mX5_dropUntold ad 0 0 (wrW cn wst rw1 lg n0 v0 x0 y0 o0 n1 v1 x1 y1 o1, 4, [(0, gr 21), (1, gi kp), (2, gi i)], []) := by
    intro n
    induction n with
    | zero => intro kp i rw1 hi hd hr1 hm9; exact absurd hm9 (Nat.not_lt_zero _)
    | succ n ih4 =>
      intro kp i rw1 hi hd hr1 hm4
      have hle := wkc_le rwx i.toNat
      have hkp := hd.1
      have hrd := hd.2.2 (i * 4 + 0) (by omega)
      refine G.go hX 3 (wrW cn wst rw1 lg n0 v0 x0 y0 o0 n1 v1 x1 y1 o1, 9, [(0, gr 21), (1, gi kp), (2, gi i)], [gi cn, gi i]) rfl trivial ?_
      refine g_icmp_ge hX 48 rfl rfl ⟨by omega, by omega⟩ ⟨by omega, by omega⟩ (fun b9 => ?_) (fun b9 => ?_)
      ·
        refine G.go hX 3 (wrW kp wst rw1 lg n0 v0 x0 y0 o0 n1 v1 x1 y1 o1, 53, [(0, gr 21), (1, gi kp), (2, gi i)], []) rfl trivial ?_
        exact g_vret hX hE rfl ⟨kp, rw1, rfl, rfl, by (rw [show cn = i by omega]; exact hd), by omega, hr1⟩
      ·
        refine G.go hX 3 (wrW cn wst rw1 lg n0 v0 x0 y0 o0 n1 v1 x1 y1 o1, 15, [(0, gr 21), (1, gi kp), (2, gi i)], [gi 0, gi i, gr 21]) rfl trivial ?_
        refine G.callV (av := [gi i, gi 0]) (o := 21) (st := []) hX rfl (fun l D cA => c_X5_tell l D cA cn wst rw1 lg n0 v0 x0 y0 o0 n1 v1 x1 y1 o1 i 0 (by first | assumption | omega)) (by decide +kernel) aX5_tell rfl rfl rfl ⟨rfl, rfl⟩ (by decide) (Nat.le_of_ble_eq_true rfl) [0, 1, 2, 3, 4, 5, 6, 7, 8, 9, 10, 11, 12] [] [] rfl rfl rfl (fun r w' hp => ?_)
        obtain ⟨rfl, rfl⟩ := hp
        show G X mX5_dropUntold ad 0 0 (wrW cn wst rw1 lg n0 v0 x0 y0 o0 n1 v1 x1 y1 o1, 18, [(0, gr 21), (1, gi kp), (2, gi i)], [gi (rw1 (i * 4 + 0))])
        refine g_if_eq hX 42 rfl rfl (hr1 _) (fun b18 => ?_) (fun b18 => ?_)
        ·
          refine G.go hX 2 (wrW cn wst rw1 lg n0 v0 x0 y0 o0 n1 v1 x1 y1 o1, 4, [(0, gr 21), (1, gi kp), (2, gi (i + 1))], []) rfl trivial ?_
          exact ih4 kp (i + 1) rw1 (by omega) (by exact wDr_skip hd hi.1 (by omega)) (by exact hr1) (by omega)
        ·
          refine G.go hX 11 (wrW cn wst rw1 lg n0 v0 x0 y0 o0 n1 v1 x1 y1 o1, 36, [(0, gr 21), (1, gi kp), (2, gi i)], [gi 4, gi (kp * 4), gr 22, gi (i * 4), gr 22]) rfl trivial ?_
          refine g_copy hX rfl (by decide +kernel) ⟨by decide, Nat.le_of_ble_eq_true rfl⟩ rfl rfl (by omega) ?_
          show G X mX5_dropUntold ad 0 0 (wrW cn wst (gcp rw1 rw1 (i * 4) (kp * 4) 4) lg n0 v0 x0 y0 o0 n1 v1 x1 y1 o1, 39, [(0, gr 21), (1, gi kp), (2, gi i)], [])
          refine G.go hX 3 (wrW cn wst (gcp rw1 rw1 (i * 4) (kp * 4) 4) lg n0 v0 x0 y0 o0 n1 v1 x1 y1 o1, 4, [(0, gr 21), (1, gi (kp + 1)), (2, gi (i + 1))], []) rfl trivial ?_
          exact ih4 (kp + 1) (i + 1) (gcp rw1 rw1 (i * 4) (kp * 4) 4) (by omega) (by exact wDr_keep hd hi.1 (by omega)) (by exact gcp_r hr1 hr1 _ _ _) (by omega)
  exact lp4 _ 0 0 rwx (by omega) (by exact ⟨rfl, fun k k1 => by omega, fun _ _ => rfl⟩) (by exact hrw) (Nat.lt_succ_self _)
