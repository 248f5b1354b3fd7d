/-! class and model tell the same: surfaces -/
theorem gsm_zero {f : Int → Int} (a : Nat) : ∀ n : Nat, (∀ q : Int, (a : Int) ≤ q → q < ((a + n : Nat) : Int) → f q = 0) → gsm f (a + n) = gsm f a
  | 0, _ => rfl
  | n + 1, h => by
    show gsm f (a + n) + f ((a + n : Nat) : Int) = gsm f a
    rw [gsm_zero a n (fun q h1 h2 => h q h1 (by omega)), h _ (by omega) (by omega)]
    omega
theorem gsm_row {W : Nat} {g m : Int → Int} {y : Nat} (h1 : ∀ x : Int, 0 ≤ x → x < W → g ((y : Int) * W + x) = m (32 * (y : Int) + x)) (h : gsm g (y * W) = gsm m (32 * y)) : ∀ n : Nat, n ≤ W → gsm g (y * W + n) = gsm m (32 * y + n)
  | 0, _ => h
  | n + 1, hn => by
    show gsm g (y * W + n) + g ((y * W + n : Nat) : Int) = gsm m (32 * y + n) + m ((32 * y + n : Nat) : Int)
    have h9 := h1 (n : Int) (by omega) (by omega)
    have e1 : ((y * W + n : Nat) : Int) = (y : Int) * W + n := by push_cast; rfl
    have e2 : ((32 * y + n : Nat) : Int) = 32 * (y : Int) + n := by push_cast; rfl
    rw [gsm_row h1 h n (by omega), e1, e2, h9]
theorem gsm_grid {W H : Nat} (hW : W ≤ 32) (hH : H ≤ 32) {g m : Int → Int} (h1 : ∀ x y : Int, 0 ≤ x → x < W → 0 ≤ y → y < H → g (y * W + x) = m (32 * y + x)) (h0 : ∀ q : Int, 0 ≤ q → q < 1024 → ¬ (q % 32 < W ∧ q / 32 < H) → m q = 0) : gsm g (W * H) = gsm m 1024 := by
  have key : ∀ y : Nat, y ≤ H → gsm g (y * W) = gsm m (32 * y) := by
    intro y
    induction y with
    | zero => intro _; rw [Nat.zero_mul]; rfl
    | succ y ih =>
      intro hy
      have a := gsm_row (g := g) (m := m) (y := y) (fun x x0 x1 => h1 x y x0 x1 (by omega) (by omega)) (ih (by omega)) W (Nat.le_refl _)
      have b := gsm_zero (f := m) (32 * y + W) (32 - W) (fun q q0 q1 => h0 q (by omega) (by omega) (by omega))
      rw [show (y + 1) * W = y * W + W by rw [Nat.succ_mul], a, ← b, show 32 * y + W + (32 - W) = 32 * (y + 1) by omega]
  have b := gsm_zero (f := m) (32 * H) (1024 - 32 * H) (fun q q0 q1 => h0 q (by omega) (by omega) (by omega))
  rw [Nat.mul_comm, key H (Nat.le_refl _), ← b, show 32 * H + (1024 - 32 * H) = 1024 by omega]
def iPt (W H : Nat) (p0 p1 mpt : Int → Int) : Prop := ∀ x y : Int, 0 ≤ x → x < W → 0 ≤ y → y < H → mpt (32 * y + x) = p0 (y * W + x) ∧ mpt (1024 + 32 * y + x) = p1 (y * W + x)
theorem iPt_m {W H : Nat} (hW : W ≤ 32) {p0 p1 mpt : Int → Int} (h : iPt W H p0 p1 mpt) {ne fa x y : Int} (hx : 0 ≤ x ∧ x < W) (hy : 0 ≤ y ∧ y < H) : gun W H ne fa p0 p1 x y ↔ ¬ (mMt W H ne fa mpt 0 x y ∧ mMt W H ne fa mpt 1 x y) := by
  have h9 := h x y hx.1 hx.2 hy.1 hy.2
  have e0 : gmt W H ne fa (p0 (y * W + x)) p1 x y ↔ mMt W H ne fa mpt 0 x y := by
    refine ⟨fun ⟨a, b, a0, a1, b0, b1, c1, c2, c3, c4, hg⟩ => ⟨a, b, ⟨a0, a1⟩, ⟨b0, b1⟩, ⟨c1, c2⟩, ⟨c3, c4⟩, ?_⟩, fun ⟨a, b, ⟨a0, a1⟩, ⟨b0, b1⟩, ⟨c1, c2⟩, ⟨c3, c4⟩, hg⟩ => ⟨a, b, a0, a1, b0, b1, c1, c2, c3, c4, ?_⟩⟩
    · rw [show 1024 * 0 + 32 * y + x = 32 * y + x by omega, show 1024 - 1024 * 0 + 32 * b + a = 1024 + 32 * b + a by omega, h9.1, (h a b a0 a1 b0 b1).2]
      exact hg
    · rw [show 1024 * 0 + 32 * y + x = 32 * y + x by omega, show 1024 - 1024 * 0 + 32 * b + a = 1024 + 32 * b + a by omega, h9.1, (h a b a0 a1 b0 b1).2] at hg
      exact hg
  have e1 : gmt W H ne fa (p1 (y * W + x)) p0 x y ↔ mMt W H ne fa mpt 1 x y := by
    refine ⟨fun ⟨a, b, a0, a1, b0, b1, c1, c2, c3, c4, hg⟩ => ⟨a, b, ⟨a0, a1⟩, ⟨b0, b1⟩, ⟨c1, c2⟩, ⟨c3, c4⟩, ?_⟩, fun ⟨a, b, ⟨a0, a1⟩, ⟨b0, b1⟩, ⟨c1, c2⟩, ⟨c3, c4⟩, hg⟩ => ⟨a, b, a0, a1, b0, b1, c1, c2, c3, c4, ?_⟩⟩
    · rw [show 1024 * 1 + 32 * y + x = 1024 + 32 * y + x by omega, show 1024 - 1024 * 1 + 32 * b + a = 32 * b + a by omega, h9.2, (h a b a0 a1 b0 b1).1]
      exact hg
    · rw [show 1024 * 1 + 32 * y + x = 1024 + 32 * y + x by omega, show 1024 - 1024 * 1 + 32 * b + a = 32 * b + a by omega, h9.2, (h a b a0 a1 b0 b1).1] at hg
      exact hg
  unfold gun
  rw [e0, e1]
theorem iPt_d {W H P : Nat} (hW : W ≤ 32) (hP : P = W * H) {p0 p1 mpt : Int → Int} (h : iPt W H p0 p1 mpt) {ne fa x y : Int} (hx : 0 ≤ x ∧ x < W) (hy : 0 ≤ y ∧ y < H) : gmk W H P ne fa p0 p1 (y * W + x) = mds W H ne fa mpt (32 * y + x) := by
  rw [gmk_at hP hx hy]
  unfold mds
  obtain ⟨m1, m2⟩ := m32 (x := x) (y := y) hx.1 (by omega)
  rw [m1, m2]
  exact gb_c ⟨fun h9 => ⟨⟨hx.2, hy.2⟩, (iPt_m hW h hx hy).mp h9⟩, fun h9 => (iPt_m hW h hx hy).mpr h9.2⟩
theorem mds_0 {W H : Nat} {ne fa : Int} {mpt : Int → Int} {q : Int} (h : ¬ (q % 32 < W ∧ q / 32 < H)) : mds W H ne fa mpt q = 0 := gb_f fun h9 => h h9.1
/-- how many places differ -/
theorem iPt_s {W H P : Nat} (hW : W ≤ 32) (hH : H ≤ 32) (hP : P = W * H) {p0 p1 mpt : Int → Int} (h : iPt W H p0 p1 mpt) {ne fa : Int} : gsm (gmk W H P ne fa p0 p1) P = gsm (mds W H ne fa mpt) 1024 := by
  have k := gsm_grid hW hH (g := gmk W H P ne fa p0 p1) (m := mds W H ne fa mpt) (fun x y x0 x1 y0 y1 => iPt_d hW hP h ⟨x0, x1⟩ ⟨y0, y1⟩) (fun q _ _ h9 => mds_0 h9)
  rw [← hP] at k
  exact k
/-- the boxes are the same -/
theorem iPt_b {W H P M : Nat} (hW : W ≤ 32) (hH : H ≤ 32) (hP : P = W * H) {p0 p1 mpt rows bo df : Int → Int} {ne fa dp c mn nb : Int} (h : iPt W H p0 p1 mpt) (hg : gVal W H P M ne fa p0 p1 dp c rows) (hm : mVal W H ne fa mpt mn nb bo df) : dp = mn ∧ c = nb ∧ (∀ i, 0 ≤ i → i < c → ∀ k, 0 ≤ k → k < 4 → rows (i * 5 + k) = bo (4 * i + k)) ∧ ∀ i, 0 ≤ i → i < c → rows (i * 5 + 4) = gsm (fun q => gb (((bo (4 * i) ≤ q % 32 ∧ q % 32 ≤ bo (4 * i + 2)) ∧ bo (4 * i + 1) ≤ q / 32 ∧ q / 32 ≤ bo (4 * i + 3)) ∧ df q = 1)) 1024 := by
  obtain ⟨g1, ⟨d1, d2, d3, d4, d5, d6⟩, g3, g4⟩ := hg
  obtain ⟨m1, m2, m3, ⟨e1, e2, e3, e4⟩, m5⟩ := hm
  have hdd : gdf W H (gmk W H P ne fa p0 p1) = mdd W H df := by
    funext x y
    apply propext
    unfold gdf mdd
    constructor
    · rintro ⟨a, b, c9⟩
      refine ⟨a, b, ?_⟩
      rw [m2 _ (by omega) (by omega), ← iPt_d hW hP h a b]
      exact c9
    · rintro ⟨a, b, c9⟩
      refine ⟨a, b, ?_⟩
      rw [m2 _ (by omega) (by omega), ← iPt_d hW hP h a b] at c9
      exact c9
  rw [hdd] at d3 d4
  obtain ⟨s1, s2⟩ := fSame d1 m3.1 d3 d4 g3 e1 e2 m5
  refine ⟨?_, s1, fun i i0 i1 k k0 k1 => ?_, fun i i0 i1 => ?_⟩
  · rw [g1, m1]
    exact iPt_s hW hH hP h
  · obtain ⟨t0, t1, t2, t3⟩ := s2 i i0 i1
    unfold grw mrw at t0 t1 t2 t3
    have hk : k = 0 ∨ k = 1 ∨ k = 2 ∨ k = 3 := by omega
    rcases hk with rfl | rfl | rfl | rfl
    · exact t0
    · exact t1
    · exact t2
    · exact t3
  · obtain ⟨t0, t1, t2, t3⟩ := s2 i i0 i1
    unfold grw mrw at t0 t1 t2 t3
    rw [Int.add_zero (4 * i)] at t0
    rw [d6 i i0 i1]
    have k := gsm_grid hW hH (g := fun q => gb (gmk W H P ne fa p0 p1 q = 1 ∧ fin (grw rows i) (q % W) (q / W))) (m := fun q => gb (((bo (4 * i) ≤ q % 32 ∧ q % 32 ≤ bo (4 * i + 2)) ∧ bo (4 * i + 1) ≤ q / 32 ∧ q / 32 ≤ bo (4 * i + 3)) ∧ df q = 1)) (fun x y x0 x1 y0 y1 => ?_) (fun q q0 q1 h9 => ?_)
    · rw [← hP] at k
      exact k
    · obtain ⟨n1, n2⟩ := m32 (x := x) (y := y) x0 (by omega)
      obtain ⟨n3, n4⟩ := gdivmod (W := W) (x := x) (y := y) x0 x1
      show gb (gmk W H P ne fa p0 p1 (y * W + x) = 1 ∧ fin (grw rows i) ((y * W + x) % W) ((y * W + x) / W)) = gb (((bo (4 * i) ≤ (32 * y + x) % 32 ∧ (32 * y + x) % 32 ≤ bo (4 * i + 2)) ∧ bo (4 * i + 1) ≤ (32 * y + x) / 32 ∧ (32 * y + x) / 32 ≤ bo (4 * i + 3)) ∧ df (32 * y + x) = 1)
      rw [n1, n2, n3, n4, m2 _ (by omega) (by omega), ← iPt_d hW hP h ⟨x0, x1⟩ ⟨y0, y1⟩, ← t0, ← t1, ← t2, ← t3]
      unfold fin grw
      exact gb_c ⟨fun ⟨a, b1, b2, b3, b4⟩ => ⟨⟨⟨b1, b2⟩, b3, b4⟩, a⟩, fun ⟨⟨⟨b1, b2⟩, b3, b4⟩, a⟩ => ⟨a, b1, b2, b3, b4⟩⟩
    · refine gb_f fun h8 => ?_
      rw [m2 q q0 q1, mds_0 h9] at h8
      exact absurd h8.2 (by omega)
