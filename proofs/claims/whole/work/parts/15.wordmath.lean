/-! words: their order, the longest common row, the rows that are told -/
/-- number p comes before number q in the order of the places -/
def wbf (xs ys : Int → Int) (p q : Int) : Prop := ys p < ys q ∨ (ys p = ys q ∧ (xs p < xs q ∨ (xs p = xs q ∧ p < q)))
def wOrd (n : Int) (xs ys ord : Int → Int) : Prop := (∀ j, 0 ≤ j → j < n → 0 ≤ ord j ∧ ord j < n) ∧ (∀ k, 0 ≤ k → k < n → ∃ j, 0 ≤ j ∧ j < n ∧ ord j = k) ∧ ∀ i j, 0 ≤ i → i < j → j < n → wbf xs ys (ord i) (ord j)
/-- number k lies behind the place (x, y) -/
def wbh (xs ys : Int → Int) (k x y : Int) : Prop := y < ys k ∨ (ys k = y ∧ x < xs k)
/-- the order while a word looks for its place p -/
def wIn (n : Int) (xs ys ord o1 : Int → Int) (x y p : Int) : Prop := (0 ≤ p ∧ p ≤ n) ∧ (∀ j, 0 ≤ j → j < p → o1 j = ord j) ∧ (∀ j, p < j → j ≤ n → o1 j = ord (j - 1)) ∧ ∀ j, p ≤ j → j < n → wbh xs ys (ord j) x y
theorem wIn_step {n : Int} {xs ys ord o1 : Int → Int} {x y p : Int} (h : wIn n xs ys ord o1 x y p) (hp : 0 < p) (hb : wbh xs ys (o1 (p - 1)) x y) : wIn n xs ys ord (gu o1 p (o1 (p - 1))) x y (p - 1) := by
  obtain ⟨h1, h2, h3, h4⟩ := h
  have e : o1 (p - 1) = ord (p - 1) := h2 (p - 1) (by omega) (by omega)
  refine ⟨by omega, fun j j0 j1 => ?_, fun j j0 j1 => ?_, fun j j0 j1 => ?_⟩
  · rw [gu_n _ _ (by omega)]
    exact h2 j j0 (by omega)
  · by_cases c : j = p
    · subst c
      rw [gu_s]
      exact e
    · rw [gu_n _ _ c]
      exact h3 j (by omega) j1
  · by_cases c : j = p - 1
    · subst c
      rw [← e]
      exact hb
    · exact h4 j (by omega) j1
theorem wOrd_ins {n : Int} {xs ys ord o1 : Int → Int} {x y p : Int} (hn : 0 ≤ n) (hO : wOrd n xs ys ord) (h : wIn n (gu xs n x) (gu ys n y) ord o1 x y p) (he : ¬ 0 < p ∨ ¬ wbh (gu xs n x) (gu ys n y) (o1 (p - 1)) x y) : wOrd (n + 1) (gu xs n x) (gu ys n y) (gu o1 p n) := by
  obtain ⟨a1, a2, a3⟩ := hO
  obtain ⟨h1, h2, h3, h4⟩ := h
  have at_ : ∀ j, 0 ≤ j → j < n + 1 → gu o1 p n j = if j < p then ord j else if j = p then n else ord (j - 1) := fun j j0 j1 => by
    by_cases c : j < p
    · rw [if_pos c, gu_n _ _ (by omega)]
      exact h2 j j0 c
    · rw [if_neg c]
      by_cases c2 : j = p
      · subst c2
        rw [if_pos rfl, gu_s]
      · rw [if_neg c2, gu_n _ _ c2]
        exact h3 j (by omega) (by omega)
  have bo : ∀ i j, 0 ≤ i → i < j → j < n → wbf (gu xs n x) (gu ys n y) (ord i) (ord j) := fun i j i0 ij j1 => by
    have e1 := a1 i i0 (by omega)
    have e2 := a1 j (by omega) j1
    have := a3 i j i0 ij j1
    unfold wbf at *
    rw [gu_n _ _ (by omega), gu_n _ _ (by omega), gu_n _ _ (by omega), gu_n _ _ (by omega)]
    exact this
  have xn : gu xs n x n = x := gu_s _ _ _
  have yn : gu ys n y n = y := gu_s _ _ _
  have lo : ∀ j, 0 ≤ j → j < p → wbf (gu xs n x) (gu ys n y) (ord j) n := fun j j0 j1 => by
    have e1 := a1 j j0 (by omega)
    rcases he with he | he
    · omega
    · rw [h2 (p - 1) (by omega) (by omega)] at he
      by_cases c : j = p - 1
      · rw [c] at e1 ⊢
        unfold wbf wbh at *
        rw [xn, yn]
        omega
      · have e2 := a1 (p - 1) (by omega) (by omega)
        have := bo j (p - 1) j0 (by omega) (by omega)
        unfold wbf wbh at *
        rw [xn, yn]
        omega
  have hi : ∀ j, p ≤ j → j < n → wbf (gu xs n x) (gu ys n y) n (ord j) := fun j j0 j1 => by
    have := h4 j j0 j1
    unfold wbf wbh at *
    rw [xn, yn]
    omega
  refine ⟨fun j j0 j1 => ?_, fun k k0 k1 => ?_, fun i j i0 ij j1 => ?_⟩
  · rw [at_ j j0 j1]
    split
    · have := a1 j j0 (by omega); omega
    · split
      · omega
      · have := a1 (j - 1) (by omega) (by omega); omega
  · by_cases c : k = n
    · exact ⟨p, by omega, by omega, by rw [c, gu_s]⟩
    · obtain ⟨j, j0, j1, e⟩ := a2 k k0 (by omega)
      by_cases c2 : j < p
      · exact ⟨j, j0, by omega, by rw [at_ j j0 (by omega), if_pos c2]; exact e⟩
      · exact ⟨j + 1, by omega, by omega, by rw [at_ (j + 1) (by omega) (by omega), if_neg (by omega), if_neg (by omega), show j + 1 - 1 = j by omega]; exact e⟩
  · rw [at_ i i0 (by omega), at_ j (by omega) j1]
    by_cases c1 : i < p
    · rw [if_pos c1]
      by_cases c2 : j < p
      · rw [if_pos c2]
        exact bo i j i0 ij (by omega)
      · rw [if_neg c2]
        by_cases c3 : j = p
        · rw [if_pos c3]
          exact lo i i0 c1
        · rw [if_neg c3]
          by_cases c4 : i = j - 1
          · omega
          · exact bo i (j - 1) i0 (by omega) (by omega)
    · rw [if_neg c1, if_neg (show ¬ j < p by omega), if_neg (show ¬ j = p by omega)]
      by_cases c3 : i = p
      · rw [if_pos c3]
        exact hi (j - 1) (by omega) (by omega)
      · rw [if_neg c3]
        exact bo (i - 1) (j - 1) (by omega) (by omega) (by omega)
/-- there is one order -/
theorem wOrd_uni {n : Int} {xs ys o1 o2 : Int → Int} (h1 : wOrd n xs ys o1) (h2 : wOrd n xs ys o2) : ∀ i : Nat, (i : Int) < n → o1 i = o2 i := by
  intro i
  induction i using Nat.strongRecOn with
  | ind i ih =>
    intro hi
    obtain ⟨a1, a2, a3⟩ := h1
    obtain ⟨b1, b2, b3⟩ := h2
    obtain ⟨j, j0, j1, e⟩ := b2 (o1 i) (a1 i (by omega) hi).1 (a1 i (by omega) hi).2
    obtain ⟨k, k0, k1, f⟩ := a2 (o2 i) (b1 i (by omega) hi).1 (b1 i (by omega) hi).2
    have hij : (i : Int) ≤ j := by
      apply Classical.byContradiction
      intro h9
      have := ih j.toNat (by omega) (by omega)
      rw [show ((j.toNat : Nat) : Int) = j by omega] at this
      have s := a3 j i j0 (by omega) hi
      rw [this, e] at s
      unfold wbf at s
      omega
    have hik : (i : Int) ≤ k := by
      apply Classical.byContradiction
      intro h9
      have := ih k.toNat (by omega) (by omega)
      rw [show ((k.toNat : Nat) : Int) = k by omega] at this
      have s := b3 k i k0 (by omega) hi
      rw [← this, f] at s
      unfold wbf at s
      omega
    apply Classical.byContradiction
    intro hne
    have hj : j ≠ i := fun h9 => hne (by rw [← e, h9])
    have hk : k ≠ i := fun h9 => hne (by rw [← f, h9])
    have s := b3 i j (by omega) (by omega) j1
    have t := a3 i k (by omega) (by omega) k1
    rw [e] at s
    rw [f] at t
    unfold wbf at s t
    omega
/-- the row's length from positions a and b on -/
def wLv (n0 n1 : Int) (u v : Int → Int) (L : Int → Int → Int) (a b : Int) : Int := if a = n0 ∨ b = n1 then 0 else if u a = v b then 1 + L (a + 1) (b + 1) else max (L (a + 1) b) (L a (b + 1))
def wLok (n0 n1 : Int) (u v : Int → Int) (L : Int → Int → Int) : Prop := ∀ a b, 0 ≤ a → a ≤ n0 → 0 ≤ b → b ≤ n1 → L a b = wLv n0 n1 u v L a b ∧ 0 ≤ L a b ∧ L a b ≤ n0 - a
/-- behind (a, b), by rows, all is measured -/
def wLp (n0 n1 : Int) (u v lg : Int → Int) (a b : Int) : Prop := ∀ a' b', 0 ≤ a' → a' ≤ n0 → 0 ≤ b' → b' ≤ n1 → (a < a' ∨ (a = a' ∧ b < b')) → lg (a' * 41 + b') = wLv n0 n1 u v (fun a b => lg (a * 41 + b)) a' b' ∧ 0 ≤ lg (a' * 41 + b') ∧ lg (a' * 41 + b') ≤ n0 - a'
theorem wLv_c {n0 n1 : Int} {u v : Int → Int} {L M : Int → Int → Int} {a b : Int} (h : a < n0 → b < n1 → L (a + 1) (b + 1) = M (a + 1) (b + 1) ∧ L (a + 1) b = M (a + 1) b ∧ L a (b + 1) = M a (b + 1)) (ha : a ≤ n0) (hb : b ≤ n1) : wLv n0 n1 u v L a b = wLv n0 n1 u v M a b := by
  unfold wLv
  by_cases c : a = n0 ∨ b = n1
  · rw [if_pos c, if_pos c]
  · obtain ⟨e1, e2, e3⟩ := h (by omega) (by omega)
    rw [if_neg c, if_neg c, e1, e2, e3]
theorem wLp_step {n0 n1 : Int} {u v lg : Int → Int} {a b : Int} (hn : n1 ≤ 40) (h : wLp n0 n1 u v lg a b) (a0 : 0 ≤ a) (a1 : a ≤ n0) (b0 : 0 ≤ b) (b1 : b ≤ n1) : wLp n0 n1 u v (gu lg (a * 41 + b) (wLv n0 n1 u v (fun a b => lg (a * 41 + b)) a b)) a (b - 1) := by
  have idx : ∀ p q, 0 ≤ q → q ≤ n1 → (p ≠ a ∨ q ≠ b) → p * 41 + q ≠ a * 41 + b := fun p q q0 q1 hne e => by
    have := gix_inj (W := 41) (x := q) (y := p) (x' := b) (y' := a) (by omega) (by omega) (by omega) (by omega) (by omega)
    omega
  intro a' b' p0 p1 q0 q1 hor
  by_cases e : a' = a ∧ b' = b
  · obtain ⟨rfl, rfl⟩ := e
    rw [gu_s]
    refine ⟨wLv_c (fun c1 c2 => ⟨?_, ?_, ?_⟩) p1 q1, ?_⟩
    · exact (gu_n _ _ (idx _ _ (by omega) (by omega) (by omega))).symm
    · exact (gu_n _ _ (idx _ _ (by omega) (by omega) (by omega))).symm
    · exact (gu_n _ _ (idx _ _ (by omega) (by omega) (by omega))).symm
    · unfold wLv
      split
      · omega
      · split
        · have := h (a' + 1) (b' + 1) (by omega) (by omega) (by omega) (by omega) (by omega)
          dsimp only
          omega
        · have := h (a' + 1) b' (by omega) (by omega) (by omega) (by omega) (by omega)
          have := h a' (b' + 1) (by omega) (by omega) (by omega) (by omega) (by omega)
          dsimp only
          omega
  · obtain ⟨h1, h2⟩ := h a' b' p0 p1 q0 q1 (by omega)
    rw [gu_n _ _ (idx a' b' q0 q1 (by omega))]
    refine ⟨?_, h2⟩
    rw [h1]
    refine wLv_c (fun c1 c2 => ⟨?_, ?_, ?_⟩) p1 q1
    · exact (gu_n _ _ (idx _ _ (by omega) (by omega) (by omega))).symm
    · exact (gu_n _ _ (idx _ _ (by omega) (by omega) (by omega))).symm
    · exact (gu_n _ _ (idx _ _ (by omega) (by omega) (by omega))).symm
/-- measured alike -/
theorem wLok_uni {n0 n1 : Int} {u v u' v' : Int → Int} {L M : Int → Int → Int} (hu : ∀ a, 0 ≤ a → a < n0 → u a = u' a) (hv : ∀ b, 0 ≤ b → b < n1 → v b = v' b) (h1 : wLok n0 n1 u v L) (h2 : wLok n0 n1 u' v' M) : ∀ (f : Nat) (a b : Int), 0 ≤ a → a ≤ n0 → 0 ≤ b → b ≤ n1 → n0 - a + (n1 - b) ≤ f → L a b = M a b := by
  intro f
  induction f with
  | zero =>
    intro a b a0 a1 b0 b1 hf
    rw [(h1 a b a0 a1 b0 b1).1, (h2 a b a0 a1 b0 b1).1]
    unfold wLv
    rw [if_pos (by omega), if_pos (by omega)]
  | succ f ih =>
    intro a b a0 a1 b0 b1 hf
    rw [(h1 a b a0 a1 b0 b1).1, (h2 a b a0 a1 b0 b1).1]
    unfold wLv
    by_cases c : a = n0 ∨ b = n1
    · rw [if_pos c, if_pos c]
    · rw [if_neg c, if_neg c, hu a a0 (by omega), hv b b0 (by omega), ih (a + 1) (b + 1) (by omega) (by omega) (by omega) (by omega) (by omega), ih (a + 1) b (by omega) (by omega) (by omega) (by omega) (by omega), ih a (b + 1) (by omega) (by omega) (by omega) (by omega) (by omega)]
/-- the rows from positions a and b on; u, nu, xa, ya: side 0 by positions (word, number, place); v, nv, xb, yb: side 1 -/
def wWk (n0 n1 : Int) (u nu xa ya v nv xb yb : Int → Int) (L : Int → Int → Int) : Nat → Int → Int → List (Int × Int × Int × Int)
  | 0, _, _ => []
  | f + 1, a, b => if a < n0 ∧ b < n1 ∧ u a = v b then (if xa a = xb b ∧ ya a = yb b then wWk n0 n1 u nu xa ya v nv xb yb L f (a + 1) (b + 1) else (4, u a, nu a, nv b) :: wWk n0 n1 u nu xa ya v nv xb yb L f (a + 1) (b + 1))
    else if a < n0 ∧ (n1 ≤ b ∨ L a (b + 1) ≤ L (a + 1) b) then (1, u a, nu a, -1) :: wWk n0 n1 u nu xa ya v nv xb yb L f (a + 1) b
    else if b < n1 then (3, v b, -1, nv b) :: wWk n0 n1 u nu xa ya v nv xb yb L f a (b + 1) else []
theorem wWk_end {n0 n1 : Int} {u nu xa ya v nv xb yb : Int → Int} {L : Int → Int → Int} {a b : Int} (ha : n0 ≤ a) (hb : n1 ≤ b) : ∀ f : Nat, wWk n0 n1 u nu xa ya v nv xb yb L f a b = []
  | 0 => rfl
  | f + 1 => by
    unfold wWk
    rw [if_neg (by omega), if_neg (by omega), if_neg (by omega)]
theorem wWk_same {n0 n1 : Int} {u nu xa ya v nv xb yb : Int → Int} {L : Int → Int → Int} {a b : Int} (f : Nat) (ha : a < n0) (hb : b < n1) (hu : u a = v b) (hs : xa a = xb b ∧ ya a = yb b) : wWk n0 n1 u nu xa ya v nv xb yb L (f + 1) a b = wWk n0 n1 u nu xa ya v nv xb yb L f (a + 1) (b + 1) := by
  conv => lhs; unfold wWk
  rw [if_pos ⟨ha, hb, hu⟩, if_pos hs]
theorem wWk_shift {n0 n1 : Int} {u nu xa ya v nv xb yb : Int → Int} {L : Int → Int → Int} {a b : Int} (f : Nat) (ha : a < n0) (hb : b < n1) (hu : u a = v b) (hs : ¬ (xa a = xb b ∧ ya a = yb b)) : wWk n0 n1 u nu xa ya v nv xb yb L (f + 1) a b = (4, u a, nu a, nv b) :: wWk n0 n1 u nu xa ya v nv xb yb L f (a + 1) (b + 1) := by
  conv => lhs; unfold wWk
  rw [if_pos ⟨ha, hb, hu⟩, if_neg hs]
theorem wWk_gone {n0 n1 : Int} {u nu xa ya v nv xb yb : Int → Int} {L : Int → Int → Int} {a b : Int} (f : Nat) (hk : ¬ (a < n0 ∧ b < n1 ∧ u a = v b)) (hg : a < n0 ∧ (n1 ≤ b ∨ L a (b + 1) ≤ L (a + 1) b)) : wWk n0 n1 u nu xa ya v nv xb yb L (f + 1) a b = (1, u a, nu a, -1) :: wWk n0 n1 u nu xa ya v nv xb yb L f (a + 1) b := by
  conv => lhs; unfold wWk
  rw [if_neg hk, if_pos hg]
theorem wWk_new {n0 n1 : Int} {u nu xa ya v nv xb yb : Int → Int} {L : Int → Int → Int} {a b : Int} (f : Nat) (hk : ¬ (a < n0 ∧ b < n1 ∧ u a = v b)) (hg : ¬ (a < n0 ∧ (n1 ≤ b ∨ L a (b + 1) ≤ L (a + 1) b))) (hb : b < n1) : wWk n0 n1 u nu xa ya v nv xb yb L (f + 1) a b = (3, v b, -1, nv b) :: wWk n0 n1 u nu xa ya v nv xb yb L f a (b + 1) := by
  conv => lhs; unfold wWk
  rw [if_neg hk, if_neg hg, if_pos hb]
theorem wWk_c {n0 n1 : Int} {u nu xa ya v nv xb yb u' nu' xa' ya' v' nv' xb' yb' : Int → Int} {L L' : Int → Int → Int} (h0 : ∀ a, 0 ≤ a → a < n0 → u a = u' a ∧ nu a = nu' a ∧ xa a = xa' a ∧ ya a = ya' a) (h1 : ∀ b, 0 ≤ b → b < n1 → v b = v' b ∧ nv b = nv' b ∧ xb b = xb' b ∧ yb b = yb' b) (hL : ∀ a b, 0 ≤ a → a ≤ n0 → 0 ≤ b → b ≤ n1 → L a b = L' a b) : ∀ (f : Nat) (a b : Int), 0 ≤ a → a ≤ n0 → 0 ≤ b → b ≤ n1 → wWk n0 n1 u nu xa ya v nv xb yb L f a b = wWk n0 n1 u' nu' xa' ya' v' nv' xb' yb' L' f a b := by
  intro f
  induction f with
  | zero => intro a b _ _ _ _; rfl
  | succ f ih =>
    intro a b a0 a1 b0 b1
    by_cases ca : a < n0
    · obtain ⟨e1, e2, e3, e4⟩ := h0 a a0 ca
      by_cases cb : b < n1
      · obtain ⟨g1, g2, g3, g4⟩ := h1 b b0 cb
        conv => lhs; unfold wWk
        conv => rhs; unfold wWk
        rw [e1, e2, e3, e4, g1, g2, g3, g4, hL a (b + 1) a0 a1 (by omega) (by omega), hL (a + 1) b (by omega) (by omega) b0 b1, ih (a + 1) (b + 1) (by omega) (by omega) (by omega) (by omega), ih (a + 1) b (by omega) (by omega) (by omega) (by omega), ih a (b + 1) (by omega) (by omega) (by omega) (by omega)]
      · rw [wWk_gone f (by omega) (by omega), wWk_gone f (by omega) (by omega), e1, e2, ih (a + 1) b (by omega) (by omega) (by omega) (by omega)]
    · by_cases cb : b < n1
      · obtain ⟨g1, g2, g3, g4⟩ := h1 b b0 cb
        rw [wWk_new f (by omega) (by omega) cb, wWk_new f (by omega) (by omega) cb, g1, g2, ih a (b + 1) (by omega) (by omega) (by omega) (by omega)]
      · rw [wWk_end (by omega) (by omega), wWk_end (by omega) (by omega)]
theorem wWk_len {n0 n1 : Int} {u nu xa ya v nv xb yb : Int → Int} {L : Int → Int → Int} : ∀ (f : Nat) (a b : Int), a ≤ n0 → b ≤ n1 → ((wWk n0 n1 u nu xa ya v nv xb yb L f a b).length : Int) ≤ n0 - a + (n1 - b) := by
  intro f
  induction f with
  | zero => intro a b h1 h2; show ((0 : Nat) : Int) ≤ _; omega
  | succ f ih =>
    intro a b h1 h2
    unfold wWk
    split
    · split
      · have := ih (a + 1) (b + 1) (by omega) (by omega)
        omega
      · have := ih (a + 1) (b + 1) (by omega) (by omega)
        simp only [List.length_cons]
        omega
    · split
      · have := ih (a + 1) b (by omega) (by omega)
        simp only [List.length_cons]
        omega
      · split
        · have := ih a (b + 1) (by omega) (by omega)
          simp only [List.length_cons]
          omega
        · show ((0 : Nat) : Int) ≤ _
          omega
/-- the array's rows are the list's -/
def wrl (rw_ : Int → Int) (l : List (Int × Int × Int × Int)) : Prop := ∀ (i : Nat) (q : Int × Int × Int × Int), l[i]? = some q → rw_ ((i : Int) * 4 + 0) = q.1 ∧ rw_ ((i : Int) * 4 + 1) = q.2.1 ∧ rw_ ((i : Int) * 4 + 2) = q.2.2.1 ∧ rw_ ((i : Int) * 4 + 3) = q.2.2.2
def wap (rw_ : Int → Int) (c k w p q : Int) : Int → Int := gu (gu (gu (gu rw_ (c * 4 + 0) k) (c * 4 + 1) w) (c * 4 + 2) p) (c * 4 + 3) q
theorem wap_at (rw_ : Int → Int) (c k w p q : Int) : wap rw_ c k w p q (c * 4 + 0) = k ∧ wap rw_ c k w p q (c * 4 + 1) = w ∧ wap rw_ c k w p q (c * 4 + 2) = p ∧ wap rw_ c k w p q (c * 4 + 3) = q ∧ ∀ j, j < c * 4 → wap rw_ c k w p q j = rw_ j := by
  unfold wap
  refine ⟨?_, ?_, ?_, ?_, fun j hj => ?_⟩
  · rw [gu_n _ _ (by omega), gu_n _ _ (by omega), gu_n _ _ (by omega), gu_s]
  · rw [gu_n _ _ (by omega), gu_n _ _ (by omega), gu_s]
  · rw [gu_n _ _ (by omega), gu_s]
  · rw [gu_s]
  · rw [gu_n _ _ (by omega), gu_n _ _ (by omega), gu_n _ _ (by omega), gu_n _ _ (by omega)]
theorem wrl_app {rw_ : Int → Int} {l : List (Int × Int × Int × Int)} {c k w p q : Int} (h : wrl rw_ l) (hc : c = (l.length : Int)) : wrl (wap rw_ c k w p q) (l ++ [(k, w, p, q)]) := by
  obtain ⟨a0, a1, a2, a3, a4⟩ := wap_at rw_ c k w p q
  intro i x hx
  by_cases hi : i < l.length
  · rw [List.getElem?_append_left hi] at hx
    rw [a4 _ (by omega), a4 _ (by omega), a4 _ (by omega), a4 _ (by omega)]
    exact h i x hx
  · rw [List.getElem?_append_right (by omega)] at hx
    have hlt := (List.getElem?_eq_some_iff.mp hx).1
    simp only [List.length_cons, List.length_nil] at hlt
    have e : i = l.length := by omega
    subst e
    rw [Nat.sub_self] at hx
    cases hx
    rw [← hc]
    exact ⟨a0, a1, a2, a3⟩
/-- the first new one from i on of word w, or -1 -/
def wfi (R : Int → Int) (w : Int) : Nat → Int → Int
  | 0, _ => -1
  | f + 1, i => if R (i * 4 + 0) = 3 ∧ R (i * 4 + 1) = w then i else wfi R w f (i + 1)
def wmv (R : Int → Int) (g i : Int) : Int → Int := gu (gu (gu R (g * 4 + 0) 2) (g * 4 + 3) (R (i * 4 + 3))) (i * 4 + 0) 0
/-- a gone one with the first new one of its word -/
def wp1 (c : Nat) (R : Int → Int) (g : Int) : Int → Int := if R (g * 4 + 0) = 1 then (if wfi R (R (g * 4 + 1)) c 0 < 0 then R else wmv R g (wfi R (R (g * 4 + 1)) c 0)) else R
def wpr (c : Nat) (R : Int → Int) : Nat → Int → Int
  | 0 => R
  | g + 1 => wp1 c (wpr c R g) (g : Int)
theorem wfi_c {R S : Int → Int} {w : Int} {c : Int} (h : ∀ q, 0 ≤ q → q < c * 4 → R q = S q) : ∀ (f : Nat) (i : Int), 0 ≤ i → i + f ≤ c → wfi R w f i = wfi S w f i
  | 0, _, _, _ => rfl
  | f + 1, i, i0, i1 => by
    unfold wfi
    rw [h (i * 4 + 0) (by omega) (by omega), h (i * 4 + 1) (by omega) (by omega), wfi_c h f (i + 1) (by omega) (by omega)]
theorem wfi_in {R : Int → Int} {w : Int} : ∀ (f : Nat) (i : Int), ¬ wfi R w f i < 0 → i ≤ wfi R w f i ∧ wfi R w f i < i + f
  | 0, i, h => by
    unfold wfi at h
    omega
  | f + 1, i, h => by
    unfold wfi at h ⊢
    split
    · omega
    · next hn =>
      rw [if_neg hn] at h
      have := wfi_in f (i + 1) h
      omega
theorem wp1_c {R S : Int → Int} {c : Nat} {g : Int} (h : ∀ q, 0 ≤ q → q < (c : Int) * 4 → R q = S q) (g0 : 0 ≤ g) (g1 : g < c) : ∀ q, 0 ≤ q → q < (c : Int) * 4 → wp1 c R g q = wp1 c S g q := by
  intro q q0 q1
  unfold wp1
  rw [h (g * 4 + 0) (by omega) (by omega), h (g * 4 + 1) (by omega) (by omega), wfi_c h c 0 (by omega) (by omega)]
  split
  · split
    · exact h q q0 q1
    · next hn =>
      have := wfi_in c 0 hn
      unfold wmv
      rw [h (wfi S (S (g * 4 + 1)) c 0 * 4 + 3) (by omega) (by omega)]
      unfold gu
      split
      · rfl
      · split
        · rfl
        · split
          · rfl
          · exact h q q0 q1
  · exact h q q0 q1
theorem wpr_c {R S : Int → Int} {c : Nat} (h : ∀ q, 0 ≤ q → q < (c : Int) * 4 → R q = S q) : ∀ n : Nat, n ≤ c → ∀ q, 0 ≤ q → q < (c : Int) * 4 → wpr c R n q = wpr c S n q
  | 0, _ => h
  | n + 1, hn => wp1_c (wpr_c h n (by omega)) (by omega) (by omega)
/-- how many rows before row k are told -/
noncomputable def wkc (R : Int → Int) (k : Nat) : Int := gsm (fun q => gb (R (q * 4 + 0) ≠ 0)) k
theorem wkc_le (R : Int → Int) (k : Nat) : 0 ≤ wkc R k ∧ wkc R k ≤ k := gsm_gb _ k
theorem wkc_s (R : Int → Int) (k : Nat) : wkc R (k + 1) = wkc R k + gb (R ((k : Int) * 4 + 0) ≠ 0) := rfl
/-- what the told rows are: the list, its gone ones paired with new ones, without those that are not told -/
def wTold (l : List (Int × Int × Int × Int)) (cn : Int) (rw_ : Int → Int) : Prop := ∃ R : Int → Int, wrl R l ∧ cn = wkc (wpr l.length R l.length) l.length ∧ ∀ k : Nat, k < l.length → wpr l.length R l.length ((k : Int) * 4 + 0) ≠ 0 → ∀ f : Int, 0 ≤ f → f < 4 → rw_ (wkc (wpr l.length R l.length) k * 4 + f) = wpr l.length R l.length ((k : Int) * 4 + f)
