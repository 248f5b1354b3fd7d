/-! the boxes as such: families that are closed, boxes that every closed family holds, and that there is one such family -/
def fin (b : Int → Int) (x y : Int) : Prop := b 0 ≤ x ∧ x ≤ b 2 ∧ b 1 ≤ y ∧ y ≤ b 3
def fsh (b c : Int → Int) : Prop := b 0 ≤ c 2 ∧ c 0 ≤ b 2 ∧ b 1 ≤ c 3 ∧ c 1 ≤ b 3
def fsub (b c : Int → Int) : Prop := c 0 ≤ b 0 ∧ b 2 ≤ c 2 ∧ c 1 ≤ b 1 ∧ b 3 ≤ c 3
def fwf (b : Int → Int) : Prop := b 0 ≤ b 2 ∧ b 1 ≤ b 3
def fadj (dif : Int → Int → Prop) (r x y x' y' : Int) : Prop := dif x y ∧ dif x' y' ∧ x - r ≤ x' ∧ x' ≤ x + r ∧ y - r ≤ y' ∧ y' ≤ y + r
theorem fadj.symm {dif : Int → Int → Prop} {r x y x' y' : Int} (h : fadj dif r x y x' y') : fadj dif r x' y' x y := ⟨h.2.1, h.1, by have := h.2.2; omega, by have := h.2.2; omega, by have := h.2.2; omega, by have := h.2.2; omega⟩
/-- no two boxes share a place; places that are near each other lie in one box -/
def fClo (dif : Int → Int → Prop) (r n : Int) (B : Int → Int → Int) : Prop := (∀ i, 0 ≤ i → i < n → fwf (B i)) ∧ (∀ i j, 0 ≤ i → i < n → 0 ≤ j → j < n → fsh (B i) (B j) → i = j) ∧ ∀ x y x' y', fadj dif r x y x' y' → ∃ i, 0 ≤ i ∧ i < n ∧ fin (B i) x y ∧ fin (B i) x' y'
def fGen (dif : Int → Int → Prop) (r : Int) (b : Int → Int) : Prop := fwf b ∧ ∀ (n : Int) (C : Int → Int → Int), fClo dif r n C → ∃ j, 0 ≤ j ∧ j < n ∧ fsub b (C j)
theorem fGen_join {dif : Int → Int → Prop} {r : Int} {b c d : Int → Int} (hb : fGen dif r b) (hc : fGen dif r c) (hs : fsh b c) (h0 : d 0 = min (b 0) (c 0)) (h1 : d 1 = min (b 1) (c 1)) (h2 : d 2 = max (b 2) (c 2)) (h3 : d 3 = max (b 3) (c 3)) : fGen dif r d := by
  obtain ⟨wb, gb1⟩ := hb
  obtain ⟨wc, gc1⟩ := hc
  unfold fwf at wb wc
  refine ⟨by unfold fwf; omega, fun n C hC => ?_⟩
  obtain ⟨j, j0, j1, j2⟩ := gb1 n C hC
  obtain ⟨k, k0, k1, k2⟩ := gc1 n C hC
  have e : j = k := hC.2.1 j k j0 j1 k0 k1 (by unfold fsh fsub at *; omega)
  subst e
  exact ⟨j, j0, j1, by unfold fsub at *; omega⟩
/-- a box whose four bounds are places' that every closed family holds together -/
theorem fGen_set {dif : Int → Int → Prop} {r : Int} {b : Int → Int} (T : Int → Int → Prop) (hw : fwf b) (x y : Int) (hd : fadj dif r x y x y)
    (hT : ∀ (n : Int) (C : Int → Int → Int), fClo dif r n C → ∀ j, 0 ≤ j → j < n → fin (C j) x y → ∀ px py, T px py → fin (C j) px py)
    (h0 : ∃ px py, T px py ∧ b 0 = px) (h1 : ∃ px py, T px py ∧ b 1 = py) (h2 : ∃ px py, T px py ∧ b 2 = px) (h3 : ∃ px py, T px py ∧ b 3 = py) : fGen dif r b := by
  refine ⟨hw, fun n C hC => ?_⟩
  obtain ⟨j, j0, j1, j2, -⟩ := hC.2.2 x y x y hd
  have hh := hT n C hC j j0 j1 j2
  obtain ⟨a0, a1, a2, a3⟩ := h0
  obtain ⟨b0, b1, b2, b3⟩ := h1
  obtain ⟨c0, c1, c2, c3⟩ := h2
  obtain ⟨d0, d1, d2, d3⟩ := h3
  have q0 := hh _ _ a2
  have q1 := hh _ _ b2
  have q2 := hh _ _ c2
  have q3 := hh _ _ d2
  exact ⟨j, j0, j1, by unfold fsub; unfold fin at *; omega⟩
/-- near places lie in the same box of a closed family -/
theorem fClo_near {dif : Int → Int → Prop} {r n : Int} {C : Int → Int → Int} (hC : fClo dif r n C) {x y x' y' : Int} (ha : fadj dif r x y x' y') {j : Int} (j0 : 0 ≤ j) (j1 : j < n) (hj : fin (C j) x y) : fin (C j) x' y' := by
  obtain ⟨i, i0, i1, i2, i3⟩ := hC.2.2 x y x' y' ha
  have e : i = j := hC.2.1 i j i0 i1 j0 j1 (by unfold fsh fin at *; omega)
  rw [← e]
  exact i3
theorem fUni {dif : Int → Int → Prop} {r n m : Int} {B C : Int → Int → Int} (h1 : fClo dif r n B) (g1 : ∀ i, 0 ≤ i → i < n → fGen dif r (B i)) (h2 : fClo dif r m C) (g2 : ∀ i, 0 ≤ i → i < m → fGen dif r (C i)) {i : Int} (i0 : 0 ≤ i) (i1 : i < n) : ∃ j, 0 ≤ j ∧ j < m ∧ B i 0 = C j 0 ∧ B i 1 = C j 1 ∧ B i 2 = C j 2 ∧ B i 3 = C j 3 := by
  obtain ⟨j, j0, j1, j2⟩ := (g1 i i0 i1).2 m C h2
  obtain ⟨k, k0, k1, k2⟩ := (g2 j j0 j1).2 n B h1
  have w := h1.1 i i0 i1
  have e : i = k := h1.2.1 i k i0 i1 k0 k1 (by unfold fsh fsub fwf at *; omega)
  subst e
  exact ⟨j, j0, j1, by unfold fsub at *; omega, by unfold fsub at *; omega, by unfold fsub at *; omega, by unfold fsub at *; omega⟩
def flt (b c : Int → Int) : Prop := b 1 < c 1 ∨ (b 1 = c 1 ∧ b 0 < c 0)
def fsrt (n : Int) (B : Int → Int → Int) : Prop := ∀ i j, 0 ≤ i → i < j → j < n → flt (B i) (B j)
/-- in order, and no two share a place: strictly in order -/
theorem fsrt_of {dif : Int → Int → Prop} {r n : Int} {B : Int → Int → Int} (h : fClo dif r n B) (hs : ∀ i j, 0 ≤ i → i < j → j < n → ¬ flt (B j) (B i)) : fsrt n B := by
  intro i j i0 ij j1
  have h1 := hs i j i0 ij j1
  have w1 := h.1 i i0 (by omega)
  have w2 := h.1 j (by omega) j1
  apply Classical.byContradiction
  intro h2
  have e := h.2.1 i j i0 (by omega) (by omega) j1 (by unfold flt fsh fwf at *; omega)
  omega
theorem fSame1 {dif : Int → Int → Prop} {r n m : Int} {B C : Int → Int → Int} (h1 : fClo dif r n B) (g1 : ∀ i, 0 ≤ i → i < n → fGen dif r (B i)) (s1 : fsrt n B) (h2 : fClo dif r m C) (g2 : ∀ i, 0 ≤ i → i < m → fGen dif r (C i)) (s2 : fsrt m C) : ∀ i : Nat, (i : Int) < n → (i : Int) < m ∧ B i 0 = C i 0 ∧ B i 1 = C i 1 ∧ B i 2 = C i 2 ∧ B i 3 = C i 3 := by
  intro i
  induction i using Nat.strongRecOn with
  | ind i ih =>
    intro hi
    obtain ⟨j, j0, j1, e0, e1, e2, e3⟩ := fUni h1 g1 h2 g2 (i := (i : Int)) (by omega) hi
    have hij : (i : Int) ≤ j := by
      apply Classical.byContradiction
      intro h9
      have := ih j.toNat (by omega) (by omega)
      rw [show ((j.toNat : Nat) : Int) = j by omega] at this
      have s := s1 j i j0 (by omega) hi
      unfold flt at s
      omega
    obtain ⟨k, k0, k1, f0, f1, f2, f3⟩ := fUni h2 g2 h1 g1 (i := (i : Int)) (by omega) (by omega)
    have hik : (i : Int) ≤ k := by
      apply Classical.byContradiction
      intro h9
      have := ih k.toNat (by omega) (by omega)
      rw [show ((k.toNat : Nat) : Int) = k by omega] at this
      have s := s2 k i k0 (by omega) (by omega)
      unfold flt at s
      omega
    have hj : j = i := by
      apply Classical.byContradiction
      intro h9
      have s := s2 i j (by omega) (by omega) j1
      by_cases h8 : (i : Int) = k
      · rw [← h8] at f0 f1
        unfold flt at s
        omega
      · have s' := s1 i k (by omega) (by omega) k1
        unfold flt at s s'
        omega
    subst hj
    exact ⟨by omega, e0, e1, e2, e3⟩
/-- two such families are the same -/
theorem fSame {dif : Int → Int → Prop} {r n m : Int} {B C : Int → Int → Int} (hn : 0 ≤ n) (hm : 0 ≤ m) (h1 : fClo dif r n B) (g1 : ∀ i, 0 ≤ i → i < n → fGen dif r (B i)) (s1 : fsrt n B) (h2 : fClo dif r m C) (g2 : ∀ i, 0 ≤ i → i < m → fGen dif r (C i)) (s2 : fsrt m C) : n = m ∧ ∀ i, 0 ≤ i → i < n → B i 0 = C i 0 ∧ B i 1 = C i 1 ∧ B i 2 = C i 2 ∧ B i 3 = C i 3 := by
  have a := fSame1 h1 g1 s1 h2 g2 s2
  have b := fSame1 h2 g2 s2 h1 g1 s1
  refine ⟨?_, fun i i0 i1 => ?_⟩
  · apply Classical.byContradiction
    intro h9
    by_cases h8 : n < m
    · have := (b n.toNat (by omega)).1
      omega
    · have := (a m.toNat (by omega)).1
      omega
  · have := (a i.toNat (by omega)).2
    rw [show ((i.toNat : Nat) : Int) = i by omega] at this
    exact this
/-- n numbers below m that are all different: n ≤ m -/
theorem fphp : ∀ (m n : Nat) (f : Nat → Nat), (∀ i, i < n → f i < m) → (∀ i j, i < n → j < n → f i = f j → i = j) → n ≤ m
  | 0, n, f, h, _ => by
    cases n with
    | zero => exact Nat.le_refl _
    | succ n => exact absurd (h 0 (by omega)) (Nat.not_lt_zero _)
  | m + 1, n, f, h, hi => by
    cases n with
    | zero => exact Nat.zero_le _
    | succ n =>
      have := fphp m n (fun i => if f i = m then f n else f i) (fun i hi9 => by
        have a := h i (by omega)
        have b := h n (by omega)
        show (if f i = m then f n else f i) < m
        split
        · next e =>
          have : f n ≠ m := fun e2 => by
            have := hi i n (by omega) (by omega) (by rw [e, e2])
            omega
          omega
        · omega) (fun i j hi9 hj9 e => by
        have e' : (if f i = m then f n else f i) = (if f j = m then f n else f j) := e
        split at e'
        · next e1 =>
          split at e'
          · next e2 => exact hi i j (by omega) (by omega) (by rw [e1, e2])
          · next e2 =>
            have := hi n j (by omega) (by omega) e'
            omega
        · next e1 =>
          split at e'
          · next e2 =>
            have := hi i n (by omega) (by omega) e'
            omega
          · exact hi i j (by omega) (by omega) e')
      omega
theorem gsm_congr {f g : Int → Int} : ∀ n : Nat, (∀ q : Int, 0 ≤ q → q < n → f q = g q) → gsm f n = gsm g n
  | 0, _ => rfl
  | n + 1, h => by
    show gsm f n + f n = gsm g n + g n
    rw [gsm_congr n (fun q a b => h q a (by omega)), h n (by omega) (by omega)]
theorem gsm_add (f g : Int → Int) : ∀ n : Nat, gsm (fun q => f q + g q) n = gsm f n + gsm g n
  | 0 => rfl
  | n + 1 => by
    show gsm (fun q => f q + g q) n + (f n + g n) = gsm f n + f n + (gsm g n + g n)
    rw [gsm_add f g n]
    omega
theorem gsm_sub (f g : Int → Int) : ∀ n : Nat, gsm (fun q => f q - g q) n = gsm f n - gsm g n
  | 0 => rfl
  | n + 1 => by
    show gsm (fun q => f q - g q) n + (f n - g n) = gsm f n + f n - (gsm g n + g n)
    rw [gsm_sub f g n]
    omega
/-- the queue of a box that grows from (x, y): what waits was marked, and isn't any more; nothing else has changed; it lies in every set that holds (x, y) and the marked places near its own -/
def gQu (W H P : Nat) (x y r : Int) (mk m : Int → Int) (t : Int) (qx qy : Int → Int) : Prop :=
  (∀ q, m q = 0 ∨ m q = 1) ∧ 1 ≤ t ∧ t + gsm m P = gsm mk P ∧
  (∀ j, 0 ≤ j → j < t → 0 ≤ qx j ∧ qx j < W ∧ 0 ≤ qy j ∧ qy j < H ∧ mk (qy j * W + qx j) = 1 ∧ m (qy j * W + qx j) = 0) ∧
  (∀ q, m q = mk q ∨ (m q = 0 ∧ ∃ j, 0 ≤ j ∧ j < t ∧ qy j * W + qx j = q)) ∧
  (∀ S : Int → Int → Prop, S x y → (∀ ax ay bx by_ : Int, S ax ay → 0 ≤ bx → bx < W → 0 ≤ by_ → by_ < H → ax - r ≤ bx → bx ≤ ax + r → ay - r ≤ by_ → by_ ≤ ay + r → mk (by_ * W + bx) = 1 → S bx by_) → ∀ j, 0 ≤ j → j < t → S (qx j) (qy j)) ∧ qx 0 = x ∧ qy 0 = y
theorem gQu_first {W H P : Nat} (hP : P = W * H) {x y r : Int} {mk : Int → Int} {qx qy : Int → Int} (hb : ∀ q, mk q = 0 ∨ mk q = 1) (hx : 0 ≤ x ∧ x < W) (hy : 0 ≤ y ∧ y < H) (hm : mk (y * W + x) = 1) : gQu W H P x y r mk (gu mk (y * W + x) 0) 1 (gu qx 0 x) (gu qy 0 y) := by
  have hix := gix hP hx.1 hx.2 hy.1 hy.2
  refine ⟨fun q => ?_, by omega, ?_, fun j j0 j1 => ?_, fun q => ?_, fun S s0 s1 j j0 j1 => ?_, gu_s _ _ _, gu_s _ _ _⟩
  · unfold gu
    split
    · exact Or.inl rfl
    · exact hb q
  · rw [gsm_gu, if_pos hix, hm]
    omega
  · have : j = 0 := by omega
    subst this
    rw [gu_s, gu_s]
    exact ⟨hx.1, hx.2, hy.1, hy.2, hm, gu_s _ _ _⟩
  · by_cases h : q = y * W + x
    · subst h
      exact Or.inr ⟨gu_s _ _ _, 0, by omega, by omega, by rw [gu_s, gu_s]⟩
    · exact Or.inl (gu_n _ _ h)
  · have : j = 0 := by omega
    subst this
    rw [gu_s, gu_s]
    exact s0
theorem gQu_take {W H P : Nat} (hP : P = W * H) {x y r : Int} {mk m : Int → Int} {t : Int} {qx qy : Int → Int} (h : gQu W H P x y r mk m t qx qy) {i : Int} (i0 : 0 ≤ i) (i1 : i < t) {px py : Int} (a1 : 0 ≤ px) (a2 : px < W) (a3 : 0 ≤ py) (a4 : py < H) (a5 : qx i - r ≤ px) (a6 : px ≤ qx i + r) (a7 : qy i - r ≤ py) (a8 : py ≤ qy i + r) (hm : m (py * W + px) = 1) : gQu W H P x y r mk (gu m (py * W + px) 0) (t + 1) (gu qx t px) (gu qy t py) := by
  obtain ⟨h1, h2, h3, h4, h5, h6, h7, h8⟩ := h
  have hix := gix hP a1 a2 a3 a4
  have hmk : mk (py * W + px) = 1 := by
    rcases h5 (py * W + px) with e | e
    · omega
    · omega
  refine ⟨fun q => ?_, by omega, ?_, fun j j0 j1 => ?_, fun q => ?_, fun S s0 s1 j j0 j1 => ?_, ?_, ?_⟩
  · unfold gu
    split
    · exact Or.inl rfl
    · exact h1 q
  · rw [gsm_gu, if_pos hix, hm]
    omega
  · by_cases e : j = t
    · subst e
      rw [gu_s, gu_s]
      exact ⟨a1, a2, a3, a4, hmk, gu_s _ _ _⟩
    · rw [gu_n _ _ e, gu_n _ _ e]
      obtain ⟨b1, b2, b3, b4, b5, b6⟩ := h4 j j0 (by omega)
      refine ⟨b1, b2, b3, b4, b5, ?_⟩
      unfold gu
      split
      · rfl
      · exact b6
  · by_cases e : q = py * W + px
    · subst e
      exact Or.inr ⟨gu_s _ _ _, t, by omega, by omega, by rw [gu_s, gu_s]⟩
    · rw [gu_n _ _ e]
      rcases h5 q with e1 | ⟨e1, j, j0, j1, e2⟩
      · exact Or.inl e1
      · exact Or.inr ⟨e1, j, j0, by omega, by rw [gu_n _ _ (by omega), gu_n _ _ (by omega)]; exact e2⟩
  · by_cases e : j = t
    · subst e
      rw [gu_s, gu_s]
      exact s1 _ _ _ _ (h6 S s0 s1 i i0 i1) a1 a2 a3 a4 a5 a6 a7 a8 hmk
    · rw [gu_n _ _ e, gu_n _ _ e]
      exact h6 S s0 s1 j j0 (by omega)
  · rw [gu_n _ _ (by omega)]
    exact h7
  · rw [gu_n _ _ (by omega)]
    exact h8
/-- what growFrom leaves: the queue, its least box, no mark near it -/
def gGr (W H P : Nat) (x y r : Int) (mk gro m : Int → Int) (t : Int) (qx qy : Int → Int) : Prop :=
  gQu W H P x y r mk m t qx qy ∧ (∀ j, 0 ≤ j → j < t → fin gro (qx j) (qy j)) ∧ (∀ j, 0 ≤ j → j < t → gscn W H (qx j) (qy j) r m (qy j + r + 1) 0) ∧
  (∃ j, 0 ≤ j ∧ j < t ∧ gro 0 = qx j) ∧ (∃ j, 0 ≤ j ∧ j < t ∧ gro 1 = qy j) ∧ (∃ j, 0 ≤ j ∧ j < t ∧ gro 2 = qx j) ∧ (∃ j, 0 ≤ j ∧ j < t ∧ gro 3 = qy j)
theorem gwd_at (gro : Int → Int) (a b c d : Int) : gwd gro a b c d 0 = min (gro 0) a ∧ gwd gro a b c d 1 = min (gro 1) b ∧ gwd gro a b c d 2 = max (gro 2) c ∧ gwd gro a b c d 3 = max (gro 3) d ∧ ∀ k, 4 ≤ k → gwd gro a b c d k = gro k := by
  unfold gwd
  refine ⟨by simp [gu], by simp [gu], by simp [gu], by simp [gu], fun k hk => ?_⟩
  rw [gu_n _ _ (by omega), gu_n _ _ (by omega), gu_n _ _ (by omega), gu_n _ _ (by omega)]
theorem gmn_r {a b : Int} (ha : inR a) (hb : inR b) : inR (min a b) ∧ inR (max a b) := ⟨⟨by omega, by omega⟩, by omega, by omega⟩
theorem gwd_r {gro : Int → Int} (h : ∀ j, inR (gro j)) {a b c d : Int} (ha : inR a) (hb : inR b) (hc : inR c) (hd : inR d) : ∀ j, inR (gwd gro a b c d j) := by
  unfold gwd
  exact gu_r (gu_r (gu_r (gu_r h (gmn_r (h 0) ha).1) (gmn_r (h 1) hb).1) (gmn_r (h 2) hc).2) (gmn_r (h 3) hd).2
/-- the loop of growFrom at place i of the queue -/
def gLI (W H P : Nat) (x y r : Int) (mk gro m : Int → Int) (t : Int) (qx qy : Int → Int) (i : Int) : Prop :=
  gQu W H P x y r mk m t qx qy ∧ (0 ≤ i ∧ i ≤ t) ∧ (∀ j, 0 ≤ j → j < i → fin gro (qx j) (qy j)) ∧ (∀ j, 0 ≤ j → j < i → gscn W H (qx j) (qy j) r m (qy j + r + 1) 0) ∧
  ((∃ j, 0 ≤ j ∧ j < t ∧ gro 0 = qx j) ∧ (∃ j, 0 ≤ j ∧ j < t ∧ gro 1 = qy j) ∧ (∃ j, 0 ≤ j ∧ j < t ∧ gro 2 = qx j) ∧ (∃ j, 0 ≤ j ∧ j < t ∧ gro 3 = qy j)) ∧ ∀ j, inR (gro j)
/-- while the places round place i are taken -/
def gF1 (W H P : Nat) (x y r : Int) (mk m1 : Int → Int) (t1 : Int) (qx1 qy1 : Int → Int) (m : Int → Int) (t : Int) (qx qy : Int → Int) : Prop :=
  gQu W H P x y r mk m t qx qy ∧ t1 ≤ t ∧ (∀ j, 0 ≤ j → j < t1 → qx j = qx1 j ∧ qy j = qy1 j) ∧ ∀ q, m1 q = 0 → m q = 0
theorem gF1_st {W H P : Nat} (hP : P = W * H) {x y r : Int} {mk m1 : Int → Int} {t1 : Int} {qx1 qy1 : Int → Int} {i : Int} (i0 : 0 ≤ i) (i1 : i < t1) : ∀ (m : Int → Int) (t : Int) (qx qy : Int → Int) (px py : Int), gF1 W H P x y r mk m1 t1 qx1 qy1 m t qx qy → 0 ≤ px → px < W → 0 ≤ py → py < H → qx1 i - r ≤ px → px ≤ qx1 i + r → qy1 i - r ≤ py → py ≤ qy1 i + r → m (py * W + px) = 1 → gF1 W H P x y r mk m1 t1 qx1 qy1 (gu m (py * W + px) 0) (t + 1) (gu qx t px) (gu qy t py) := by
  intro m t qx qy px py ⟨h1, h2, h3, h4⟩ a1 a2 a3 a4 a5 a6 a7 a8 hm
  obtain ⟨e1, e2⟩ := h3 i i0 i1
  refine ⟨gQu_take hP h1 i0 (by omega) a1 a2 a3 a4 (by omega) (by omega) (by omega) (by omega) hm, by omega, fun j j0 j1 => ?_, fun q hq => ?_⟩
  · rw [gu_n _ _ (by omega), gu_n _ _ (by omega)]
    exact h3 j j0 j1
  · unfold gu
    split
    · rfl
    · exact h4 q hq
theorem gF1_ok {W H P : Nat} {x y r : Int} {mk m1 : Int → Int} {t1 : Int} {qx1 qy1 : Int → Int} (hb : ∀ q, mk q = 0 ∨ mk q = 1) : ∀ (m : Int → Int) (t : Int) (qx qy : Int → Int), gF1 W H P x y r mk m1 t1 qx1 qy1 m t qx qy → (∀ q, m q = 0 ∨ m q = 1) ∧ 0 ≤ t ∧ t + gsm m P ≤ P := by
  intro m t qx qy ⟨h1, _⟩
  have := gsm_nn hb P
  exact ⟨h1.1, by have := h1.2.1; omega, by have := h1.2.2.1; omega⟩
theorem gLI_le {W H P : Nat} {x y r : Int} {mk gro m : Int → Int} {t : Int} {qx qy : Int → Int} {i : Int} (hb : ∀ q, mk q = 0 ∨ mk q = 1) (h : gLI W H P x y r mk gro m t qx qy i) : 1 ≤ t ∧ t ≤ P := by
  have h1 := gsm_nn hb P
  have h2 := gsm_nn h.1.1 P
  have h3 := h.1.2.1
  have h4 := h.1.2.2.1
  omega
theorem gLI_step {W H P : Nat} {x y r : Int} {mk gro m : Int → Int} {t : Int} {qx qy : Int → Int} {i : Int} (hW : W ≤ 32) (hH : H ≤ 32) (h : gLI W H P x y r mk gro m t qx qy i) (hi : i < t) {m2 : Int → Int} {t2 : Int} {qx2 qy2 : Int → Int} (h2 : gF1 W H P x y r mk m t qx qy m2 t2 qx2 qy2) (hs : gscn W H (qx i) (qy i) r m2 (qy i + r + 1) 0) : gLI W H P x y r mk (gwd gro (qx i) (qy i) (qx i) (qy i)) m2 t2 qx2 qy2 (i + 1) := by
  obtain ⟨a1, a2, a3, a4, ⟨a5, a6, a7, a8⟩, a9⟩ := h
  obtain ⟨b1, b2, b3, b4⟩ := h2
  obtain ⟨w0, w1, w2, w3, -⟩ := gwd_at gro (qx i) (qy i) (qx i) (qy i)
  have hxi := a1.2.2.2.1 i a2.1 hi
  have hx9 : inR (qx i) := ⟨by omega, by omega⟩
  have hy9 : inR (qy i) := ⟨by omega, by omega⟩
  have ei := b3 i a2.1 hi
  refine ⟨b1, by omega, fun j j0 j1 => ?_, fun j j0 j1 => ?_, ⟨?_, ?_, ?_, ?_⟩, gwd_r a9 hx9 hy9 hx9 hy9⟩
  · have ej := b3 j j0 (by omega)
    rw [ej.1, ej.2]
    by_cases e : j = i
    · subst e
      unfold fin
      omega
    · have := a3 j j0 (by omega)
      unfold fin at *
      omega
  · have ej := b3 j j0 (by omega)
    rw [ej.1, ej.2]
    by_cases e : j = i
    · subst e
      exact hs
    · intro px py c1 c2 c3 c4 c5 c6 c7 c8 c9
      exact b4 _ (a4 j j0 (by omega) px py c1 c2 c3 c4 c5 c6 c7 c8 c9)
  · obtain ⟨j, j0, j1, e⟩ := a5
    by_cases c : gro 0 ≤ qx i
    · exact ⟨j, j0, by omega, by rw [w0, (b3 j j0 j1).1]; omega⟩
    · exact ⟨i, a2.1, by omega, by rw [w0, ei.1]; omega⟩
  · obtain ⟨j, j0, j1, e⟩ := a6
    by_cases c : gro 1 ≤ qy i
    · exact ⟨j, j0, by omega, by rw [w1, (b3 j j0 j1).2]; omega⟩
    · exact ⟨i, a2.1, by omega, by rw [w1, ei.2]; omega⟩
  · obtain ⟨j, j0, j1, e⟩ := a7
    by_cases c : qx i ≤ gro 2
    · exact ⟨j, j0, by omega, by rw [w2, (b3 j j0 j1).1]; omega⟩
    · exact ⟨i, a2.1, by omega, by rw [w2, ei.1]; omega⟩
  · obtain ⟨j, j0, j1, e⟩ := a8
    by_cases c : qy i ≤ gro 3
    · exact ⟨j, j0, by omega, by rw [w3, (b3 j j0 j1).2]; omega⟩
    · exact ⟨i, a2.1, by omega, by rw [w3, ei.2]; omega⟩
theorem gLI_first {W H P : Nat} (hP : P = W * H) (hW : W ≤ 32) (hH : H ≤ 32) {x y r : Int} {mk gro : Int → Int} {qx qy : Int → Int} (hb : ∀ q, mk q = 0 ∨ mk q = 1) (hx : 0 ≤ x ∧ x < W) (hy : 0 ≤ y ∧ y < H) (hm : mk (y * W + x) = 1) (hg : ∀ j, inR (gro j)) : gLI W H P x y r mk (gu (gu (gu (gu gro 0 x) 1 y) 2 x) 3 y) (gu mk (y * W + x) 0) 1 (gu qx 0 x) (gu qy 0 y) 0 := by
  refine ⟨gQu_first hP hb hx hy hm, by omega, fun j j0 j1 => by omega, fun j j0 j1 => by omega, ⟨⟨0, by omega, by omega, by simp [gu]⟩, ⟨0, by omega, by omega, by simp [gu]⟩, ⟨0, by omega, by omega, by simp [gu]⟩, ⟨0, by omega, by omega, by simp [gu]⟩⟩, ?_⟩
  have h1 : inR x := ⟨by omega, by omega⟩
  have h2 : inR y := ⟨by omega, by omega⟩
  exact gu_r (gu_r (gu_r (gu_r hg h1) h2) h1) h2
theorem gLI_end {W H P : Nat} {x y r : Int} {mk gro m : Int → Int} {t : Int} {qx qy : Int → Int} {i : Int} (h : gLI W H P x y r mk gro m t qx qy i) (hi : t ≤ i) : gGr W H P x y r mk (gu gro 4 t) m t qx qy := by
  obtain ⟨a1, a2, a3, a4, ⟨a5, a6, a7, a8⟩, a9⟩ := h
  have e0 : gu gro 4 t 0 = gro 0 := gu_n _ _ (by omega)
  have e1 : gu gro 4 t 1 = gro 1 := gu_n _ _ (by omega)
  have e2 : gu gro 4 t 2 = gro 2 := gu_n _ _ (by omega)
  have e3 : gu gro 4 t 3 = gro 3 := gu_n _ _ (by omega)
  refine ⟨a1, fun j j0 j1 => ?_, fun j j0 j1 => a4 j j0 (by omega), ?_, ?_, ?_, ?_⟩
  · have := a3 j j0 (by omega)
    unfold fin at *
    rw [e0, e1, e2, e3]
    exact this
  · rw [e0]; exact a5
  · rw [e1]; exact a6
  · rw [e2]; exact a7
  · rw [e3]; exact a8
