/-! surfaces: which places differ -/
def ptq (z : Int) : Option Nat := if z = 0 then some 4 else some 5
def gcl (fa v o : Int) : Prop := max (v - o) (-(v - o)) ≤ fa
def gmt (W H : Nat) (ne fa v : Int) (p : Int → Int) (x y : Int) : Prop := ∃ a b : Int, 0 ≤ a ∧ a < W ∧ 0 ≤ b ∧ b < H ∧ x - ne ≤ a ∧ a ≤ x + ne ∧ y - ne ≤ b ∧ b ≤ y + ne ∧ gcl fa v (p (b * W + a))
def gun (W H : Nat) (ne fa : Int) (p0 p1 : Int → Int) (x y : Int) : Prop := ¬ (gmt W H ne fa (p0 (y * W + x)) p1 x y ∧ gmt W H ne fa (p1 (y * W + x)) p0 x y)
noncomputable def gmk (W H P : Nat) (ne fa : Int) (p0 p1 : Int → Int) : Int → Int := fun q => gb ((0 ≤ q ∧ q < P) ∧ gun W H ne fa p0 p1 (q % W) (q / W))
theorem gmk_01 (W H P : Nat) (ne fa : Int) (p0 p1 : Int → Int) : ∀ q, gmk W H P ne fa p0 p1 q = 0 ∨ gmk W H P ne fa p0 p1 q = 1 := fun _ => gb_01 _
theorem gmk_in {W H P : Nat} {ne fa : Int} {p0 p1 : Int → Int} : ∀ q, gmk W H P ne fa p0 p1 q = 1 → 0 ≤ q ∧ q < P := fun _ h => (gb_1.mp h).1
theorem gdivmod {W : Nat} {x y : Int} (hx : 0 ≤ x) (hx1 : x < W) : (y * W + x) % W = x ∧ (y * W + x) / W = y := by
  refine ⟨?_, ?_⟩
  · rw [Int.add_comm, Int.add_mul_emod_self_right, Int.emod_eq_of_lt hx hx1]
  · rw [Int.add_comm, Int.add_mul_ediv_right _ _ (by omega), Int.ediv_eq_zero_of_lt hx hx1]
    omega
theorem gmk_at {W H P : Nat} (hP : P = W * H) {ne fa : Int} {p0 p1 : Int → Int} {x y : Int} (hx : 0 ≤ x ∧ x < W) (hy : 0 ≤ y ∧ y < H) : gmk W H P ne fa p0 p1 (y * W + x) = gb (gun W H ne fa p0 p1 x y) := by
  have h := gix hP hx.1 hx.2 hy.1 hy.2
  have e := gdivmod (y := y) hx.1 hx.2
  unfold gmk
  rw [e.1, e.2]
  exact gb_c ⟨fun h => h.2, fun h9 => ⟨h, h9⟩⟩
/-- no point of the window before (row ro, column co) is close -/
def gnm (W H : Nat) (ne fa v : Int) (p : Int → Int) (x y ro co : Int) : Prop := ∀ a b : Int, 0 ≤ a → a < W → 0 ≤ b → b < H → x - ne ≤ a → a ≤ x + ne → y - ne ≤ b → b ≤ y + ne → (b < ro ∨ (b = ro ∧ a < co)) → ¬ gcl fa v (p (b * W + a))
theorem gnm_next {W H : Nat} {ne fa v : Int} {p : Int → Int} {x y ro co : Int} (h : gnm W H ne fa v p x y ro co) (hn : ¬ gcl fa v (p (ro * W + co))) : gnm W H ne fa v p x y ro (co + 1) := by
  intro a b h1 h2 h3 h4 h5 h6 h7 h8 h9
  by_cases e : b = ro ∧ a = co
  · rw [e.1, e.2]
    exact hn
  · exact h a b h1 h2 h3 h4 h5 h6 h7 h8 (by omega)
/-- what is kept until a change: how many places differ, and the boxes -/
def gVal (W H P M : Nat) (ne fa : Int) (p0 p1 : Int → Int) (dp c : Int) (rows : Int → Int) : Prop :=
  dp = gsm (gmk W H P ne fa p0 p1) P ∧ gDone W H P (ne + 1) (gmk W H P ne fa p0 p1) c rows ∧ fsrt c (grw rows) ∧ c ≤ M
theorem gcl_met {W H : Nat} {ne fa v : Int} {p : Int → Int} {x y : Int} (hn : 0 ≤ ne) (hx : 0 ≤ x ∧ x < W) (hy : 0 ≤ y ∧ y < H) (h : gcl fa v (p (y * W + x))) : gmt W H ne fa v p x y := ⟨x, y, hx.1, hx.2, hy.1, hy.2, by omega, by omega, by omega, by omega, h⟩
theorem gdp_next {W H P : Nat} (hP : P = W * H) {ne fa : Int} {p0 p1 : Int → Int} {x y dp : Int} (hx : 0 ≤ x ∧ x < W) (hy : 0 ≤ y ∧ y < H) (hd : dp = gsm (gmk W H P ne fa p0 p1) (y * W + x).toNat) : dp + gb (gun W H ne fa p0 p1 x y) = gsm (gmk W H P ne fa p0 p1) (y * W + (x + 1)).toNat := by
  have h := gix hP hx.1 hx.2 hy.1 hy.2
  have e9 : (y * (W : Int) + (x + 1)).toNat = (y * W + x).toNat + 1 := by omega
  rw [e9]
  show _ = gsm (gmk W H P ne fa p0 p1) (y * W + x).toNat + gmk W H P ne fa p0 p1 (((y * W + x).toNat : Nat) : Int)
  rw [show (((y * (W : Int) + x).toNat : Nat) : Int) = y * W + x by omega, gmk_at hP hx hy, hd]
