/-! pure rows: exchanging, counting, greatest -/
/-- the first n numbers of rows i and j (five a row) exchanged -/
def gswn (f : Int → Int) (i j n : Int) : Int → Int := fun q => if i * 5 ≤ q ∧ q < i * 5 + n then f (q - i * 5 + j * 5) else if j * 5 ≤ q ∧ q < j * 5 + n then f (q - j * 5 + i * 5) else f q
theorem gswn_0 (f : Int → Int) (i j : Int) : gswn f i j 0 = f := by
  funext q
  unfold gswn
  rw [if_neg (by omega), if_neg (by omega)]
theorem gswn_s (f : Int → Int) {i j n : Int} (h : i ≠ j) (h0 : 0 ≤ n) (h5 : n < 5) : gu (gu (gswn f i j n) (i * 5 + n) (gswn f i j n (j * 5 + n))) (j * 5 + n) (gswn f i j n (i * 5 + n)) = gswn f i j (n + 1) := by
  funext q
  have hh : i < j ∨ j < i := by omega
  simp only [gu, gswn]
  by_cases a : q = j * 5 + n
  · rw [if_pos a, if_neg (by omega), if_neg (by omega), if_neg (by omega), if_pos (by omega)]
    congr 1
    omega
  · rw [if_neg a]
    by_cases b : q = i * 5 + n
    · rw [if_pos b, if_neg (by omega), if_neg (by omega), if_pos (by omega)]
      congr 1
      omega
    · rw [if_neg b]
      by_cases c : i * 5 ≤ q ∧ q < i * 5 + n
      · rw [if_pos c, if_pos (by omega)]
      · rw [if_neg c, if_neg (by omega : ¬ (i * 5 ≤ q ∧ q < i * 5 + (n + 1)))]
        by_cases d : j * 5 ≤ q ∧ q < j * 5 + n
        · rw [if_pos d, if_pos (by omega)]
        · rw [if_neg d, if_neg (by omega : ¬ (j * 5 ≤ q ∧ q < j * 5 + (n + 1)))]
theorem gswn_at (f : Int → Int) {i j : Int} (h : i ≠ j) (k : Int) (h0 : 0 ≤ k) (h5 : k < 5) : gswn f i j 5 (i * 5 + k) = f (j * 5 + k) ∧ gswn f i j 5 (j * 5 + k) = f (i * 5 + k) := by
  have hh : i < j ∨ j < i := by omega
  unfold gswn
  refine ⟨?_, ?_⟩
  · rw [if_pos (by omega)]
    congr 1
    omega
  · rw [if_neg (by omega), if_pos (by omega)]
    congr 1
    omega
theorem gswn_off (f : Int → Int) {i j m : Int} (hi : m ≠ i) (hj : m ≠ j) (k : Int) (h0 : 0 ≤ k) (h5 : k < 5) : gswn f i j 5 (m * 5 + k) = f (m * 5 + k) := by
  unfold gswn
  rw [if_neg (by omega), if_neg (by omega)]
theorem gswn_r {f : Int → Int} (h : ∀ q, inR (f q)) (i j n : Int) : ∀ q, inR (gswn f i j n q) := fun q => by
  unfold gswn
  split
  · exact h _
  · split <;> exact h _
theorem gu_r {f : Int → Int} (h : ∀ q, inR (f q)) {k v : Int} (hv : inR v) : ∀ q, inR (gu f k v q) := fun q => by
  unfold gu
  split
  · exact hv
  · exact h q
theorem gcp_r {f g : Int → Int} (hf : ∀ q, inR (f q)) (hg : ∀ q, inR (g q)) (sp dp n : Int) : ∀ q, inR (gcp f g sp dp n q) := fun q => by
  unfold gcp
  split
  · exact hf _
  · exact hg q
/-- the sum of the first n -/
def gsm (f : Int → Int) : Nat → Int
  | 0 => 0
  | n + 1 => gsm f n + f n
theorem gsm_gu (f : Int → Int) (p v : Int) : ∀ n : Nat, gsm (gu f p v) n = gsm f n + (if 0 ≤ p ∧ p < n then v - f p else 0)
  | 0 => by
    rw [if_neg (by omega)]
    rfl
  | n + 1 => by
    show gsm (gu f p v) n + gu f p v n = gsm f n + f n + _
    rw [gsm_gu f p v n]
    unfold gu
    by_cases h : (n : Int) = p
    · subst h
      rw [if_pos rfl, if_neg (by omega), if_pos (by omega)]
      omega
    · rw [if_neg h]
      by_cases h2 : 0 ≤ p ∧ p < (n : Int)
      · rw [if_pos h2, if_pos (by omega)]
        omega
      · rw [if_neg h2, if_neg (by omega)]
        omega
theorem gsm_nn {f : Int → Int} (h : ∀ q, f q = 0 ∨ f q = 1) : ∀ n : Nat, 0 ≤ gsm f n ∧ gsm f n ≤ n
  | 0 => ⟨Int.le_refl _, Int.le_refl _⟩
  | n + 1 => by
    have := gsm_nn h n
    have h2 := h n
    show 0 ≤ gsm f n + f n ∧ gsm f n + f n ≤ ((n + 1 : Nat) : Int)
    omega
theorem gsm_pos {f : Int → Int} (h : ∀ q, f q = 0 ∨ f q = 1) {p : Int} (hp : f p = 1) : ∀ n : Nat, 0 ≤ p → p < n → 1 ≤ gsm f n
  | 0, a, b => by omega
  | n + 1, a, b => by
    show 1 ≤ gsm f n + f n
    have h1 := gsm_nn h n
    have h2 := h n
    by_cases hn : p = n
    · rw [← hn, hp]
      omega
    · have := gsm_pos h hp n a (by omega)
      omega
/-- the greatest of 0 and the first n -/
def gmx (f : Int → Int) : Nat → Int
  | 0 => 0
  | n + 1 => max (gmx f n) (f n)
theorem gmx_le {f : Int → Int} {b : Int} (hb : 0 ≤ b) : ∀ n : Nat, (∀ i : Nat, i < n → f i ≤ b) → 0 ≤ gmx f n ∧ gmx f n ≤ b
  | 0, _ => ⟨Int.le_refl _, hb⟩
  | n + 1, h => by
    have := gmx_le hb n (fun i hi => h i (by omega))
    have h2 := h n (by omega)
    show 0 ≤ max (gmx f n) (f n) ∧ max (gmx f n) (f n) ≤ b
    omega
theorem gmul_le {a b c d : Int} (h1 : 0 ≤ a) (h2 : a ≤ c) (h3 : 0 ≤ b) (h4 : b ≤ d) : 0 ≤ a * b ∧ a * b ≤ c * d :=
  ⟨Int.mul_nonneg h1 h3, Int.mul_le_mul h2 h4 h3 (by omega)⟩
/-- a place's number is in range -/
theorem gix {W H P : Nat} (hP : P = W * H) {x y : Int} (hx : 0 ≤ x) (hxW : x < W) (hy : 0 ≤ y) (hyH : y < H) : 0 ≤ y * W + x ∧ y * W + x < P := by
  have h1 := gmul_le (a := y) (b := W) (c := (H : Int) - 1) (d := W) hy (by omega) (by omega) (Int.le_refl _)
  have h2 : ((H : Int) - 1) * W = (P : Int) - W := by
    rw [hP, Int.sub_mul, Int.one_mul, Int.mul_comm]
    simp
  omega
/-- the box that grows and row i share a place -/
def gsh (gro rows : Int → Int) (i : Int) : Prop := gro 0 ≤ rows (i * 5 + 2) ∧ rows (i * 5 + 0) ≤ gro 2 ∧ gro 1 ≤ rows (i * 5 + 3) ∧ rows (i * 5 + 1) ≤ gro 3
/-- row i comes before row j -/
def gbf (rows : Int → Int) (i j : Int) : Prop := rows (i * 5 + 1) < rows (j * 5 + 1) ∨ (rows (i * 5 + 1) = rows (j * 5 + 1) ∧ rows (i * 5 + 0) < rows (j * 5 + 0))
def gwd (gro : Int → Int) (x1 x2 x3 x4 : Int) : Int → Int := gu (gu (gu (gu gro 0 (min (gro 0) x1)) 1 (min (gro 1) x2)) 2 (max (gro 2) x3)) 3 (max (gro 3) x4)
/-- the box that grows, when it takes row i in -/
def gab (gro rows : Int → Int) (i : Int) : Int → Int := gu (gwd gro (rows (i * 5 + 0)) (rows (i * 5 + 1)) (rows (i * 5 + 2)) (rows (i * 5 + 3))) 4 (gwd gro (rows (i * 5 + 0)) (rows (i * 5 + 1)) (rows (i * 5 + 2)) (rows (i * 5 + 3)) 4 + rows (i * 5 + 4))
/-- the places of the window round (x, y) that lie before (row ro, column co) have no mark -/
def gscn (W H : Nat) (x y r : Int) (mk : Int → Int) (ro co : Int) : Prop := ∀ px py : Int, 0 ≤ px → px < W → 0 ≤ py → py < H → x - r ≤ px → px ≤ x + r → y - r ≤ py → py ≤ y + r → (py < ro ∨ (py = ro ∧ px < co)) → mk (py * W + px) = 0
theorem gscn_take {W H : Nat} {x y r : Int} {mk : Int → Int} {ro co : Int} (h : gscn W H x y r mk ro co) : gscn W H x y r (gu mk (ro * W + co) 0) ro (co + 1) := by
  intro px py h1 h2 h3 h4 h5 h6 h7 h8 h9
  unfold gu
  split
  · rfl
  · next hn =>
    refine h px py h1 h2 h3 h4 h5 h6 h7 h8 ?_
    rcases h9 with h9 | ⟨rfl, h9⟩
    · exact Or.inl h9
    · refine Or.inr ⟨rfl, ?_⟩
      have : px ≠ co := fun e => hn (by rw [e])
      omega
theorem gscn_skip {W H : Nat} {x y r : Int} {mk : Int → Int} {ro co : Int} (h : gscn W H x y r mk ro co) (h0 : mk (ro * W + co) = 0) : gscn W H x y r mk ro (co + 1) := by
  intro px py h1 h2 h3 h4 h5 h6 h7 h8 h9
  by_cases hn : py = ro ∧ px = co
  · rw [hn.1, hn.2]
    exact h0
  · exact h px py h1 h2 h3 h4 h5 h6 h7 h8 (by omega)
theorem gscn_row {W H : Nat} {x y r : Int} {mk : Int → Int} {ro co : Int} (h : gscn W H x y r mk ro co) (hc : min ((W : Int) - 1) (x + r) < co) (c2 : Int) (h2 : c2 ≤ max 0 (x - r)) : gscn W H x y r mk (ro + 1) c2 := by
  intro px py h1 h2 h3 h4 h5 h6 h7 h8 h9
  exact h px py h1 h2 h3 h4 h5 h6 h7 h8 (by omega)
/-- rows 0 .. i are in order but for what lies before row j -/
def gSI (rows : Int → Int) (i j : Int) : Prop := ∀ a b : Int, 0 ≤ a → a < b → b ≤ i → b ≠ j → ¬ gbf rows b a
theorem gSI_swap {rows : Int → Int} {i j : Int} (h : gSI rows i j) (hj : 0 < j) (hi : j ≤ i) (hb : gbf rows j (j - 1)) : gSI (gswn rows j (j - 1) 5) i (j - 1) := by
  intro a b h0 h1 h2 h3
  have e0 := gswn_at rows (i := j) (j := j - 1) (by omega) 0 (by omega) (by omega)
  have e1 := gswn_at rows (i := j) (j := j - 1) (by omega) 1 (by omega) (by omega)
  by_cases b1 : b = j
  · subst b1
    by_cases a1 : a = b - 1
    · subst a1
      unfold gbf at *
      omega
    · have := h a (b - 1) h0 (by omega) (by omega) (by omega)
      have f0 := gswn_off rows (i := b) (j := b - 1) (m := a) (by omega) (by omega) 0 (by omega) (by omega)
      have f1 := gswn_off rows (i := b) (j := b - 1) (m := a) (by omega) (by omega) 1 (by omega) (by omega)
      unfold gbf at *
      omega
  · have g0 := gswn_off rows (i := j) (j := j - 1) (m := b) (by omega) (by omega) 0 (by omega) (by omega)
    have g1 := gswn_off rows (i := j) (j := j - 1) (m := b) (by omega) (by omega) 1 (by omega) (by omega)
    by_cases a1 : a = j
    · subst a1
      have := h (a - 1) b (by omega) (by omega) h2 (by omega)
      unfold gbf at *
      omega
    · by_cases a2 : a = j - 1
      · subst a2
        have := h j b (by omega) (by omega) h2 (by omega)
        unfold gbf at *
        omega
      · have := h a b h0 h1 h2 b1
        have f0 := gswn_off rows (i := j) (j := j - 1) (m := a) (by omega) (by omega) 0 (by omega) (by omega)
        have f1 := gswn_off rows (i := j) (j := j - 1) (m := a) (by omega) (by omega) 1 (by omega) (by omega)
        unfold gbf at *
        omega
theorem gSI_end {rows : Int → Int} {i j : Int} (h : gSI rows i j) (hj : ¬ 0 < j ∨ ¬ gbf rows j (j - 1)) : gSI rows i (-1) := by
  intro a b h0 h1 h2 h3
  by_cases b1 : b = j
  · subst b1
    rcases hj with hj | hj
    · omega
    · by_cases a1 : a = b - 1
      · subst a1
        exact hj
      · have := h a (b - 1) h0 (by omega) (by omega) (by omega)
        unfold gbf at *
        omega
  · exact h a b h0 h1 h2 b1
theorem gSI_next {rows : Int → Int} {i : Int} (h : gSI rows i (-1)) : gSI rows (i + 1) (i + 1) := fun a b h0 h1 h2 h3 => h a b h0 h1 (by omega) (by omega)
