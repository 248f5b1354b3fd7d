/-! what gather keeps true -/
def gdf (W H : Nat) (mk : Int → Int) : Int → Int → Prop := fun x y => (0 ≤ x ∧ x < W) ∧ (0 ≤ y ∧ y < H) ∧ mk (y * W + x) = 1
def grw (rows : Int → Int) (i : Int) : Int → Int := fun k => rows (i * 5 + k)
noncomputable def gInd (mk m own : Int → Int) (i : Int) : Int → Int := fun q => gb (mk q = 1 ∧ m q = 0 ∧ own q = i)
theorem gix_inj {W : Nat} {x y x' y' : Int} (h0 : 0 ≤ x) (h1 : x < W) (h0' : 0 ≤ x') (h1' : x' < W) (e : y * W + x = y' * W + x') : y = y' ∧ x = x' := by
  have hy : y = y' := by
    apply Classical.byContradiction
    intro hn
    by_cases hl : y < y'
    · have := Int.mul_le_mul_of_nonneg_right (show y + 1 ≤ y' by omega) (show (0 : Int) ≤ W by omega)
      rw [Int.add_mul, Int.one_mul] at this
      omega
    · have := Int.mul_le_mul_of_nonneg_right (show y' + 1 ≤ y by omega) (show (0 : Int) ≤ W by omega)
      rw [Int.add_mul, Int.one_mul] at this
      omega
  subst hy
  exact ⟨rfl, by omega⟩
def gFam (W H P M : Nat) (r : Int) (mk m : Int → Int) (c : Int) (rows own : Int → Int) : Prop :=
  (0 ≤ c ∧ c ≤ M) ∧ (∀ j, inR (rows j)) ∧ (∀ i, 0 ≤ i → i < c → fGen (gdf W H mk) r (grw rows i)) ∧
  (∀ i, 0 ≤ i → i < c → 0 ≤ rows (i * 5 + 0) ∧ rows (i * 5 + 2) < W ∧ 0 ≤ rows (i * 5 + 1) ∧ rows (i * 5 + 3) < H) ∧
  (∀ i j, 0 ≤ i → i < c → 0 ≤ j → j < c → fsh (grw rows i) (grw rows j) → i = j) ∧
  (∀ i, 0 ≤ i → i < c → ∃ x y, gdf W H mk x y ∧ m (y * W + x) = 0 ∧ fin (grw rows i) x y) ∧
  (∀ i, 0 ≤ i → i < c → rows (i * 5 + 4) = gsm (gInd mk m own i) P) ∧
  (∀ x y, gdf W H mk x y → m (y * W + x) = 0 → own (y * W + x) = -1 ∨ (0 ≤ own (y * W + x) ∧ own (y * W + x) < c ∧ fin (grw rows (own (y * W + x))) x y))
/-- while the box that grew from (x, y) takes others in -/
def gAb (W H P M : Nat) (r : Int) (mk m : Int → Int) (gx gy : Int) (c : Int) (rows gro : Int → Int) : Prop :=
  ∃ own : Int → Int, gFam W H P M r mk m c rows own ∧ (∀ j, inR (gro j)) ∧ fGen (gdf W H mk) r gro ∧ (0 ≤ gro 0 ∧ gro 2 < W ∧ 0 ≤ gro 1 ∧ gro 3 < H) ∧ fin gro gx gy ∧ gro 4 = gsm (gInd mk m own (-1)) P ∧
  (∀ x y, gdf W H mk x y → m (y * W + x) = 0 → own (y * W + x) = -1 → fin gro x y) ∧
  (∀ x y x' y', fadj (gdf W H mk) r x y x' y' → m (y * W + x) = 0 → (∃ i, 0 ≤ i ∧ i < c ∧ fin (grw rows i) x y ∧ fin (grw rows i) x' y') ∨ (fin gro x y ∧ fin gro x' y'))
theorem gInd_01 (mk m own : Int → Int) (i : Int) : ∀ q, gInd mk m own i q = 0 ∨ gInd mk m own i q = 1 := fun q => gb_01 _
theorem gmv_at (rows : Int → Int) {c i a k : Int} (k0 : 0 ≤ k) (k5 : k < 5) : gcp rows rows ((c - 1) * 5) (i * 5) 5 (a * 5 + k) = if a = i then rows ((c - 1) * 5 + k) else rows (a * 5 + k) := by
  unfold gcp
  by_cases e : a = i
  · subst e
    rw [if_pos rfl, if_pos (by omega)]
    congr 1
    omega
  · rw [if_neg e, if_neg (by omega)]
theorem gmv_row {rows : Int → Int} {c i a : Int} : ∀ k, 0 ≤ k → k < 5 → grw (gcp rows rows ((c - 1) * 5) (i * 5) 5) a k = grw rows (if a = i then c - 1 else a) k := by
  intro k k0 k5
  unfold grw
  rw [gmv_at rows k0 k5]
  split <;> rfl
theorem fin_c {b c : Int → Int} (h : ∀ k, 0 ≤ k → k < 5 → b k = c k) {x y : Int} : fin b x y ↔ fin c x y := by
  unfold fin
  rw [h 0 (by omega) (by omega), h 1 (by omega) (by omega), h 2 (by omega) (by omega), h 3 (by omega) (by omega)]
theorem fGen_c {dif : Int → Int → Prop} {r : Int} {b c : Int → Int} (h : ∀ k, 0 ≤ k → k < 5 → b k = c k) (hc : fGen dif r c) : fGen dif r b := by
  unfold fGen fwf fsub at *
  rw [h 0 (by omega) (by omega), h 1 (by omega) (by omega), h 2 (by omega) (by omega), h 3 (by omega) (by omega)]
  exact hc
theorem fsh_c {b c b' c' : Int → Int} (h : ∀ k, 0 ≤ k → k < 5 → b k = c k) (h' : ∀ k, 0 ≤ k → k < 5 → b' k = c' k) : fsh b b' ↔ fsh c c' := by
  unfold fsh
  rw [h 0 (by omega) (by omega), h 1 (by omega) (by omega), h 2 (by omega) (by omega), h 3 (by omega) (by omega), h' 0 (by omega) (by omega), h' 1 (by omega) (by omega), h' 2 (by omega) (by omega), h' 3 (by omega) (by omega)]
theorem gab_at (gro rows : Int → Int) (i : Int) : gab gro rows i 0 = min (gro 0) (rows (i * 5 + 0)) ∧ gab gro rows i 1 = min (gro 1) (rows (i * 5 + 1)) ∧ gab gro rows i 2 = max (gro 2) (rows (i * 5 + 2)) ∧ gab gro rows i 3 = max (gro 3) (rows (i * 5 + 3)) ∧ gab gro rows i 4 = gro 4 + rows (i * 5 + 4) := by
  obtain ⟨w0, w1, w2, w3, w4⟩ := gwd_at gro (rows (i * 5 + 0)) (rows (i * 5 + 1)) (rows (i * 5 + 2)) (rows (i * 5 + 3))
  unfold gab
  refine ⟨?_, ?_, ?_, ?_, ?_⟩
  · rw [gu_n _ _ (by omega)]; exact w0
  · rw [gu_n _ _ (by omega)]; exact w1
  · rw [gu_n _ _ (by omega)]; exact w2
  · rw [gu_n _ _ (by omega)]; exact w3
  · rw [gu_s, w4 4 (by omega)]
/-- who has what, when row i goes into the box that grows and the last row comes to its place -/
def gow (own : Int → Int) (c i : Int) : Int → Int := fun q => if own q = i then -1 else if own q = c - 1 then i else own q
theorem gow_i {own : Int → Int} {c i q : Int} (h : own q = i) : gow own c i q = -1 := if_pos h
theorem gow_c {own : Int → Int} {c i q : Int} (h : ¬ own q = i) (h2 : own q = c - 1) : gow own c i q = i := by
  unfold gow
  rw [if_neg h, if_pos h2]
theorem gow_o {own : Int → Int} {c i q : Int} (h : ¬ own q = i) (h2 : ¬ own q = c - 1) : gow own c i q = own q := by
  unfold gow
  rw [if_neg h, if_neg h2]
theorem gAb_st {W H P M : Nat} {r : Int} {mk m : Int → Int} {gx gy : Int} (hPl : P ≤ 1024) : ∀ (c : Int) (rows gro : Int → Int) (i : Int), gAb W H P M r mk m gx gy c rows gro → 0 ≤ i → i < c → gsh gro rows i → gAb W H P M r mk m gx gy (c - 1) (gcp rows rows ((c - 1) * 5) (i * 5) 5) (gab gro rows i) := by
  intro c rows gro i ⟨own, hF, g1, g2, g3, g4, g5, g6, g7⟩ i0 i1 hs
  obtain ⟨f1, f2, f3, f4, f5, f6, f7, f8⟩ := hF
  obtain ⟨w0, w1, w2, w3, w4⟩ := gab_at gro rows i
  have hsh : fsh gro (grw rows i) := by
    unfold gsh at hs
    unfold fsh grw
    omega
  have hgi := f3 i i0 i1
  have bnd := f4 i i0 i1
  have hsum : gab gro rows i 4 = gsm (gInd mk m (gow own c i) (-1)) P := by
    rw [w4, g5, f7 i i0 i1, ← gsm_add]
    apply gsm_congr
    intro q _ _
    unfold gInd
    by_cases hb : mk q = 1 ∧ m q = 0
    · by_cases e1 : own q = i
      · rw [gb_f (fun h => by omega), gb_t ⟨hb.1, hb.2, e1⟩, gb_t ⟨hb.1, hb.2, gow_i e1⟩]
        omega
      · by_cases e2 : own q = -1
        · rw [gb_t ⟨hb.1, hb.2, e2⟩, gb_f (fun h => e1 h.2.2), gb_t ⟨hb.1, hb.2, by rw [gow_o e1 (by omega)]; exact e2⟩]
          omega
        · rw [gb_f (fun h => e2 h.2.2), gb_f (fun h => e1 h.2.2), gb_f (fun h => by
            have := h.2.2
            by_cases e3 : own q = c - 1
            · rw [gow_c e1 e3] at this
              omega
            · rw [gow_o e1 e3] at this
              omega)]
          omega
    · rw [gb_f (fun h => hb ⟨h.1, h.2.1⟩), gb_f (fun h => hb ⟨h.1, h.2.1⟩), gb_f (fun h => hb ⟨h.1, h.2.1⟩)]
      omega
  refine ⟨gow own c i, ⟨by omega, gcp_r f2 f2 _ _ _, fun a a0 a1 => ?_, fun a a0 a1 => ?_, fun a b a0 a1 b0 b1 h => ?_, fun a a0 a1 => ?_, fun a a0 a1 => ?_, fun x y hd hm => ?_⟩, fun j => ?_, ?_, ?_, ?_, hsum, fun x y hd hm ho => ?_, fun x y x' y' ha hm => ?_⟩
  · refine fGen_c gmv_row ?_
    split
    · exact f3 _ (by omega) (by omega)
    · exact f3 a a0 (by omega)
  · rw [gmv_at rows (by omega) (by omega), gmv_at rows (by omega) (by omega), gmv_at rows (by omega) (by omega), gmv_at rows (by omega) (by omega)]
    by_cases e : a = i
    · simp only [if_pos e]
      exact f4 (c - 1) (by omega) (by omega)
    · simp only [if_neg e]
      exact f4 a a0 (by omega)
  · rw [fsh_c gmv_row gmv_row] at h
    have := f5 _ _ (by split <;> omega) (by split <;> omega) (by split <;> omega) (by split <;> omega) h
    split at this <;> split at this <;> omega
  · have : ∃ x y, gdf W H mk x y ∧ m (y * W + x) = 0 ∧ fin (grw rows (if a = i then c - 1 else a)) x y := f6 _ (by split <;> omega) (by split <;> omega)
    obtain ⟨x, y, h1, h2, h3⟩ := this
    exact ⟨x, y, h1, h2, (fin_c gmv_row).mpr h3⟩
  · rw [gmv_at rows (by omega) (by omega)]
    have e9 : (if a = i then rows ((c - 1) * 5 + 4) else rows (a * 5 + 4)) = gsm (gInd mk m own (if a = i then c - 1 else a)) P := by
      split
      · exact f7 (c - 1) (by omega) (by omega)
      · exact f7 a a0 (by omega)
    rw [e9]
    apply gsm_congr
    intro q _ _
    unfold gInd
    apply gb_c
    refine ⟨fun ⟨h1, h2, h3⟩ => ⟨h1, h2, ?_⟩, fun ⟨h1, h2, h3⟩ => ⟨h1, h2, ?_⟩⟩
    · by_cases e : a = i
      · rw [if_pos e] at h3
        rw [gow_c (by omega) h3]
        exact e.symm
      · rw [if_neg e] at h3
        rw [gow_o (by omega) (by omega)]
        exact h3
    · by_cases e1 : own q = i
      · rw [gow_i e1] at h3
        omega
      · by_cases e2 : own q = c - 1
        · rw [gow_c e1 e2] at h3
          rw [if_pos h3.symm]
          exact e2
        · rw [gow_o e1 e2] at h3
          rw [if_neg (by omega)]
          exact h3
  · rcases f8 x y hd hm with h | ⟨h1, h2, h3⟩
    · left
      rw [gow_o (by omega) (by omega)]
      exact h
    · by_cases e1 : own (y * W + x) = i
      · left
        exact gow_i e1
      · right
        by_cases e2 : own (y * W + x) = c - 1
        · rw [gow_c e1 e2]
          refine ⟨i0, by omega, (fin_c gmv_row).mpr ?_⟩
          rw [if_pos rfl, ← e2]
          exact h3
        · rw [gow_o e1 e2]
          refine ⟨h1, by omega, (fin_c gmv_row).mpr ?_⟩
          rw [if_neg e1]
          exact h3
  · have hnn := gsm_nn (gInd_01 mk m (gow own c i) (-1)) P
    unfold gab
    exact gu_r (gwd_r g1 (f2 _) (f2 _) (f2 _) (f2 _)) (by
      have e4 : gwd gro (rows (i * 5 + 0)) (rows (i * 5 + 1)) (rows (i * 5 + 2)) (rows (i * 5 + 3)) 4 + rows (i * 5 + 4) = gab gro rows i 4 := by
        unfold gab
        rw [gu_s]
      rw [e4, hsum]
      exact ⟨by omega, by omega⟩) j
  · exact fGen_join g2 hgi hsh w0 w1 w2 w3
  · omega
  · unfold fin at *
    omega
  · by_cases e1 : own (y * W + x) = i
    · have h3 : fin (grw rows i) x y := by
        rcases f8 x y hd hm with h | ⟨h1, h2, h3⟩
        · omega
        · rw [← e1]; exact h3
      unfold fin grw at *
      omega
    · have h9 : own (y * W + x) = -1 := by
        by_cases e2 : own (y * W + x) = c - 1
        · rw [gow_c e1 e2] at ho
          omega
        · rw [gow_o e1 e2] at ho
          exact ho
      have := g6 x y hd hm h9
      unfold fin grw at *
      omega
  · rcases g7 x y x' y' ha hm with ⟨a, a0, a1, h1, h2⟩ | ⟨h1, h2⟩
    · by_cases e : a = i
      · right
        subst e
        unfold fin grw at *
        omega
      · left
        by_cases e2 : a = c - 1
        · refine ⟨i, i0, by omega, (fin_c gmv_row).mpr ?_, (fin_c gmv_row).mpr ?_⟩
          · rw [if_pos rfl, ← e2]; exact h1
          · rw [if_pos rfl, ← e2]; exact h2
        · refine ⟨a, a0, by omega, (fin_c gmv_row).mpr ?_, (fin_c gmv_row).mpr ?_⟩
          · rw [if_neg e]; exact h1
          · rw [if_neg e]; exact h2
    · right
      unfold fin at *
      omega
theorem gAb_ok {W H P M : Nat} {r : Int} {mk m : Int → Int} {gx gy : Int} : ∀ (c : Int) (rows gro : Int → Int), gAb W H P M r mk m gx gy c rows gro → 0 ≤ c ∧ c ≤ M ∧ (∀ j : Int, inR (rows j)) ∧ (∀ j : Int, inR (gro j)) := by
  intro c rows gro ⟨own, hF, g1, _⟩
  exact ⟨hF.1.1, hF.1.2, hF.2.1, g1⟩
/-- between two boxes: what is marked is still to come -/
def gSc (W H P M : Nat) (r : Int) (mk m : Int → Int) (c : Int) (rows : Int → Int) : Prop :=
  ∃ own : Int → Int, gFam W H P M r mk m c rows own ∧ (∀ q, mk q = 1 → m q = 0 → 0 ≤ own q) ∧ (∀ q, m q = 0 ∨ m q = 1) ∧ (∀ q, m q = 1 → mk q = 1) ∧
  (∀ x y x' y', fadj (gdf W H mk) r x y x' y' → m (y * W + x) = 0 → m (y' * W + x') = 0) ∧
  (∀ x y x' y', fadj (gdf W H mk) r x y x' y' → m (y * W + x) = 0 → ∃ i, 0 ≤ i ∧ i < c ∧ fin (grw rows i) x y ∧ fin (grw rows i) x' y')
theorem gSc_first {W H P M : Nat} {r : Int} {mk rows : Int → Int} (hb : ∀ q, mk q = 0 ∨ mk q = 1) (hr : ∀ j, inR (rows j)) : gSc W H P M r mk mk 0 rows :=
  ⟨fun _ => 0, ⟨by omega, hr, fun i a b => by omega, fun i a b => by omega, fun i j a b => by omega, fun i a b => by omega, fun i a b => by omega, fun x y hd hm => by have := hd.2.2; omega⟩, fun q a b => by omega, hb, fun q h => h, fun x y x' y' ha hm => by have := ha.1.2.2; omega, fun x y x' y' ha hm => by have := ha.1.2.2; omega⟩
theorem gSc_grow {W H P M : Nat} (hP : P = W * H) (hPl : P ≤ 1024) {r : Int} (hr : 0 ≤ r) {mk m : Int → Int} {c : Int} {rows : Int → Int} (hS : gSc W H P M r mk m c rows) {x y : Int} (hx : 0 ≤ x ∧ x < W) (hy : 0 ≤ y ∧ y < H) (hm : m (y * W + x) = 1) {gro m2 : Int → Int} {t : Int} {qx qy : Int → Int} (hG : gGr W H P x y r m gro m2 t qx qy) (h4 : gro 4 = t) (hgr : ∀ j, inR (gro j)) :
    gAb W H P M r mk m2 x y c rows gro ∧ (∀ q, m2 q = 0 ∨ m2 q = 1) ∧ (∀ q, m2 q = 1 → mk q = 1) ∧ (∀ x y x' y', fadj (gdf W H mk) r x y x' y' → m2 (y * W + x) = 0 → m2 (y' * W + x') = 0) ∧ m2 (y * W + x) = 0 ∧ (∀ q, m q = 0 → m2 q = 0) := by
  obtain ⟨own, ⟨f1, f2, f3, f4, f5, f6, f7, f8⟩, s1, s2, s3, s4, s5⟩ := hS
  obtain ⟨⟨q1, q2, q3, q4, q5, q6, q7, q8⟩, n1, n2, b0, b1, b2, b3⟩ := hG
  have mono : ∀ q, m q = 0 → m2 q = 0 := fun q h => by
    rcases q5 q with e | e
    · rw [e]; exact h
    · exact e.1
  have back : ∀ q, m2 q = 1 → m q = 1 := fun q h => by
    rcases q5 q with e | e
    · rw [← e]; exact h
    · have := e.1; omega
  -- a place that was taken now lies in the queue
  have inq : ∀ px py : Int, 0 ≤ px → px < W → m (py * W + px) = 1 → m2 (py * W + px) = 0 → ∃ j, 0 ≤ j ∧ j < t ∧ qx j = px ∧ qy j = py := fun px py h1 h2 h3 h5 => by
    rcases q5 (py * W + px) with e | ⟨-, j, j0, j1, e⟩
    · omega
    · have := q4 j j0 j1
      have := gix_inj (by omega) (by omega) h1 h2 e
      exact ⟨j, j0, j1, this.2, this.1⟩
  have hdx : gdf W H mk x y := ⟨hx, hy, s3 _ hm⟩
  have h00 := n1 0 (by omega) (by omega)
  rw [q7, q8] at h00
  have hm2 : m2 (y * W + x) = 0 := by
    have := (q4 0 (by omega) (by omega)).2.2.2.2.2
    rw [q7, q8] at this
    exact this
  have closed : ∀ x y x' y', fadj (gdf W H mk) r x y x' y' → m2 (y * W + x) = 0 → m2 (y' * W + x') = 0 := fun ax ay bx by_ ha h => by
    rcases s2 (ay * W + ax) with e | e
    · exact mono _ (s4 ax ay bx by_ ha e)
    · obtain ⟨j, j0, j1, e1, e2⟩ := inq ax ay ha.1.1.1 ha.1.1.2 e h
      have hs := n2 j j0 j1
      have h2 := ha.2.2
      rw [e1, e2] at hs
      exact hs bx by_ ha.2.1.1.1 ha.2.1.1.2 ha.2.1.2.1.1 ha.2.1.2.1.2 (by omega) (by omega) (by omega) (by omega) (by omega)
  refine ⟨⟨fun q => if m q = 1 ∧ m2 q = 0 then -1 else own q, ⟨f1, f2, f3, f4, f5, fun i i0 i1 => ?_, fun i i0 i1 => ?_, fun ax ay hd h => ?_⟩, hgr, ?_, ?_, h00, ?_, fun ax ay hd h ho => ?_, fun ax ay bx by_ ha h => ?_⟩, q1, fun q h => s3 q (back q h), closed, hm2, mono⟩
  · obtain ⟨ax, ay, h1, h2, h3⟩ := f6 i i0 i1
    exact ⟨ax, ay, h1, mono _ h2, h3⟩
  · rw [f7 i i0 i1]
    apply gsm_congr
    intro q _ _
    unfold gInd
    apply gb_c
    refine ⟨fun ⟨h1, h2, h3⟩ => ⟨h1, mono q h2, ?_⟩, fun ⟨h1, h2, h3⟩ => ?_⟩
    · show (if m q = 1 ∧ m2 q = 0 then -1 else own q) = i
      rw [if_neg (by omega)]
      exact h3
    · have h3 : (if m q = 1 ∧ m2 q = 0 then -1 else own q) = i := h3
      by_cases e : m q = 1 ∧ m2 q = 0
      · rw [if_pos e] at h3
        omega
      · rw [if_neg e] at h3
        refine ⟨h1, ?_, h3⟩
        rcases s2 q with e2 | e2
        · exact e2
        · exact absurd ⟨e2, h2⟩ e
  · show (if m (ay * W + ax) = 1 ∧ m2 (ay * W + ax) = 0 then -1 else own (ay * W + ax)) = -1 ∨ (0 ≤ (if m (ay * W + ax) = 1 ∧ m2 (ay * W + ax) = 0 then -1 else own (ay * W + ax)) ∧ (if m (ay * W + ax) = 1 ∧ m2 (ay * W + ax) = 0 then -1 else own (ay * W + ax)) < c ∧ fin (grw rows (if m (ay * W + ax) = 1 ∧ m2 (ay * W + ax) = 0 then -1 else own (ay * W + ax))) ax ay)
    by_cases e : m (ay * W + ax) = 1 ∧ m2 (ay * W + ax) = 0
    · rw [if_pos e]
      exact Or.inl rfl
    · rw [if_neg e]
      exact f8 ax ay hd (by rcases s2 (ay * W + ax) with e2 | e2; exact e2; exact absurd ⟨e2, h⟩ e)
  · refine fGen_set (fun px py => ∃ j, 0 ≤ j ∧ j < t ∧ qx j = px ∧ qy j = py) ?_ x y ⟨hdx, hdx, by omega, by omega, by omega, by omega⟩ (fun n C hC j j0 j1 hj px py hT => ?_) ?_ ?_ ?_ ?_
    · unfold fin at h00
      unfold fwf
      omega
    · obtain ⟨k, k0, k1, e1, e2⟩ := hT
      have := q6 (fun a b => fin (C j) a b ∧ gdf W H mk a b) ⟨hj, hdx⟩ (fun ax ay bx by_ ha c1 c2 c3 c4 c5 c6 c7 c8 c9 => by
        have hdb : gdf W H mk bx by_ := ⟨⟨c1, c2⟩, ⟨c3, c4⟩, s3 _ c9⟩
        exact ⟨fClo_near hC ⟨ha.2, hdb, c5, c6, c7, c8⟩ j0 j1 ha.1, hdb⟩) k k0 k1
      rw [e1, e2] at this
      exact this.1
    · obtain ⟨j, j0, j1, e⟩ := b0
      exact ⟨qx j, qy j, ⟨j, j0, j1, rfl, rfl⟩, e⟩
    · obtain ⟨j, j0, j1, e⟩ := b1
      exact ⟨qx j, qy j, ⟨j, j0, j1, rfl, rfl⟩, e⟩
    · obtain ⟨j, j0, j1, e⟩ := b2
      exact ⟨qx j, qy j, ⟨j, j0, j1, rfl, rfl⟩, e⟩
    · obtain ⟨j, j0, j1, e⟩ := b3
      exact ⟨qx j, qy j, ⟨j, j0, j1, rfl, rfl⟩, e⟩
  · obtain ⟨j, j0, j1, e⟩ := b0
    obtain ⟨j', j0', j1', e'⟩ := b1
    obtain ⟨k, k0, k1, e2⟩ := b2
    obtain ⟨k', k0', k1', e2'⟩ := b3
    have := q4 j j0 j1
    have := q4 j' j0' j1'
    have := q4 k k0 k1
    have := q4 k' k0' k1'
    omega
  · have e : gsm (gInd mk m2 (fun q => if m q = 1 ∧ m2 q = 0 then -1 else own q) (-1)) P = gsm (fun q => m q - m2 q) P := by
      apply gsm_congr
      intro q _ _
      unfold gInd
      by_cases e : m q = 1 ∧ m2 q = 0
      · rw [gb_t ⟨s3 q e.1, e.2, if_pos e⟩]
        omega
      · rw [gb_f (fun h => by
          have h3 : (if m q = 1 ∧ m2 q = 0 then -1 else own q) = -1 := h.2.2
          rw [if_neg e] at h3
          have := s1 q h.1 (by rcases s2 q with e2 | e2; exact e2; exact absurd ⟨e2, h.2.1⟩ e)
          omega)]
        have := s2 q
        have := q1 q
        have := mono q
        omega
    rw [e, gsm_sub]
    omega
  · have h3 : (if m (ay * W + ax) = 1 ∧ m2 (ay * W + ax) = 0 then -1 else own (ay * W + ax)) = -1 := ho
    by_cases e : m (ay * W + ax) = 1 ∧ m2 (ay * W + ax) = 0
    · obtain ⟨j, j0, j1, e1, e2⟩ := inq ax ay hd.1.1 hd.1.2 e.1 e.2
      have := n1 j j0 j1
      rw [e1, e2] at this
      exact this
    · rw [if_neg e] at h3
      have := s1 (ay * W + ax) hd.2.2 (by rcases s2 (ay * W + ax) with e2 | e2; exact e2; exact absurd ⟨e2, h⟩ e)
      omega
  · rcases s2 (ay * W + ax) with e | e
    · exact Or.inl (s5 ax ay bx by_ ha e)
    · right
      have hb2 := closed ax ay bx by_ ha h
      have hb1 : m (by_ * W + bx) = 1 := by
        rcases s2 (by_ * W + bx) with e2 | e2
        · have := s4 bx by_ ax ay ha.symm e2
          omega
        · exact e2
      obtain ⟨j, j0, j1, e1, e2⟩ := inq ax ay ha.1.1.1 ha.1.1.2 e h
      obtain ⟨k, k0, k1, e3, e4⟩ := inq bx by_ ha.2.1.1.1 ha.2.1.1.2 hb1 hb2
      have h1 := n1 j j0 j1
      have h2 := n1 k k0 k1
      rw [e1, e2] at h1
      rw [e3, e4] at h2
      exact ⟨h1, h2⟩
/-- a box that shares no place with the others has room beside them: each has a square of two by two of its own -/
theorem gAb_lt {W H P M : Nat} (hM : M = ((W + 1) / 2) * ((H + 1) / 2)) {r : Int} (hr : 1 ≤ r) {mk m : Int → Int} {gx gy c : Int} {rows gro : Int → Int} (hA : gAb W H P M r mk m gx gy c rows gro) (hd : gdf W H mk gx gy) (hm : m (gy * W + gx) = 0) (hn : ∀ k : Int, 0 ≤ k → k < c → ¬ gsh gro rows k) : c < M := by
  obtain ⟨own, ⟨f1, f2, f3, f4, f5, f6, f7, f8⟩, g1, g2, g3, g4, g5, g6, g7⟩ := hA
  have hex : ∀ i : Nat, ∃ p : Int × Int, ((i : Int) < c → gdf W H mk p.1 p.2 ∧ m (p.2 * W + p.1) = 0 ∧ fin (grw rows i) p.1 p.2) ∧ (¬ (i : Int) < c → p = (gx, gy)) := fun i => by
    by_cases h : (i : Int) < c
    · obtain ⟨x, y, h1, h2, h3⟩ := f6 i (by omega) h
      exact ⟨(x, y), fun _ => ⟨h1, h2, h3⟩, fun h9 => absurd h h9⟩
    · exact ⟨(gx, gy), fun h9 => absurd h9 h, fun _ => rfl⟩
  obtain ⟨f, hf⟩ := Classical.axiomOfChoice hex
  have hin : ∀ i : Nat, i < c.toNat + 1 → gdf W H mk (f i).1 (f i).2 ∧ m ((f i).2 * W + (f i).1) = 0 ∧ ((i : Int) < c → fin (grw rows i) (f i).1 (f i).2) ∧ (¬ (i : Int) < c → fin gro (f i).1 (f i).2) := fun i hi => by
    by_cases h : (i : Int) < c
    · obtain ⟨h1, h2, h3⟩ := (hf i).1 h
      exact ⟨h1, h2, fun _ => h3, fun h9 => absurd h h9⟩
    · have e := (hf i).2 h
      rw [e]
      exact ⟨hd, hm, fun h9 => absurd h9 h, fun _ => g4⟩
  have key := fphp M (c.toNat + 1) (fun i => ((f i).2 / 2 * (((W + 1) / 2 : Nat) : Int) + (f i).1 / 2).toNat) (fun i hi => by
    obtain ⟨h1, -, -, -⟩ := hin i hi
    have := gix (W := (W + 1) / 2) (H := (H + 1) / 2) hM (x := (f i).1 / 2) (y := (f i).2 / 2) (by have := h1.1; omega) (by have := h1.1; omega) (by have := h1.2.1; omega) (by have := h1.2.1; omega)
    show (_ : Int).toNat < M
    omega) (fun i j hi hj e => by
    obtain ⟨a1, a2, a3, a4⟩ := hin i hi
    obtain ⟨b1, b2, b3, b4⟩ := hin j hj
    have e9 : ((f i).2 / 2 * (((W + 1) / 2 : Nat) : Int) + (f i).1 / 2).toNat = ((f j).2 / 2 * (((W + 1) / 2 : Nat) : Int) + (f j).1 / 2).toNat := e
    have p1 := gix (W := (W + 1) / 2) (H := (H + 1) / 2) hM (x := (f i).1 / 2) (y := (f i).2 / 2) (by have := a1.1; omega) (by have := a1.1; omega) (by have := a1.2.1; omega) (by have := a1.2.1; omega)
    have p2 := gix (W := (W + 1) / 2) (H := (H + 1) / 2) hM (x := (f j).1 / 2) (y := (f j).2 / 2) (by have := b1.1; omega) (by have := b1.1; omega) (by have := b1.2.1; omega) (by have := b1.2.1; omega)
    have p3 := gix_inj (W := (W + 1) / 2) (x := (f i).1 / 2) (y := (f i).2 / 2) (x' := (f j).1 / 2) (y' := (f j).2 / 2) (by have := a1.1; omega) (by have := a1.1; omega) (by have := b1.1; omega) (by have := b1.1; omega) (by omega)
    have ha : fadj (gdf W H mk) r (f i).1 (f i).2 (f j).1 (f j).2 := ⟨a1, b1, by omega, by omega, by omega, by omega⟩
    rcases g7 _ _ _ _ ha a2 with ⟨k, k0, k1, h1, h2⟩ | ⟨h1, h2⟩
    · have ei : (i : Int) = k := by
        by_cases hi2 : (i : Int) < c
        · have := a3 hi2
          exact f5 i k (by omega) hi2 k0 k1 (by unfold fsh fin at *; omega)
        · have := a4 hi2
          exact absurd (by unfold gsh; unfold fin grw at *; omega) (hn k k0 k1)
      have ej : (j : Int) = k := by
        by_cases hi2 : (j : Int) < c
        · have := b3 hi2
          exact f5 j k (by omega) hi2 k0 k1 (by unfold fsh fin at *; omega)
        · have := b4 hi2
          exact absurd (by unfold gsh; unfold fin grw at *; omega) (hn k k0 k1)
      omega
    · have ei : ¬ (i : Int) < c := fun h9 => by
        have := a3 h9
        exact absurd (by unfold gsh; unfold fin grw at *; omega) (hn i (by omega) h9)
      have ej : ¬ (j : Int) < c := fun h9 => by
        have := b3 h9
        exact absurd (by unfold gsh; unfold fin grw at *; omega) (hn j (by omega) h9)
      omega)
  omega
theorem gkp_row {rows gro : Int → Int} {c a : Int} : ∀ k, 0 ≤ k → k < 5 → grw (gcp gro rows 0 (c * 5) 5) a k = (if a = c then gro else grw rows a) k := by
  intro k k0 k5
  unfold grw gcp
  by_cases e : a = c
  · subst e
    rw [if_pos (by omega), if_pos rfl]
    congr 1
    omega
  · rw [if_neg (by omega), if_neg e]
theorem gAb_keep {W H P M : Nat} {r : Int} {mk m : Int → Int} {gx gy c : Int} {rows gro : Int → Int} (hA : gAb W H P M r mk m gx gy c rows gro) (hd : gdf W H mk gx gy) (hm : m (gy * W + gx) = 0) (hn : ∀ k : Int, 0 ≤ k → k < c → ¬ gsh gro rows k) (hc : c < M) (s2 : ∀ q, m q = 0 ∨ m q = 1) (s3 : ∀ q, m q = 1 → mk q = 1) (s4 : ∀ x y x' y', fadj (gdf W H mk) r x y x' y' → m (y * W + x) = 0 → m (y' * W + x') = 0) (hP : P = W * H) (hmkP : ∀ q, mk q = 1 → 0 ≤ q ∧ q < P) : gSc W H P M r mk m (c + 1) (gcp gro rows 0 (c * 5) 5) := by
  obtain ⟨own, ⟨f1, f2, f3, f4, f5, f6, f7, f8⟩, g1, g2, g3, g4, g5, g6, g7⟩ := hA
  have row := fun (a : Int) => gkp_row (rows := rows) (gro := gro) (c := c) (a := a)
  have ro : ∀ a, a ≠ c → ∀ k, 0 ≤ k → k < 5 → grw (gcp gro rows 0 (c * 5) 5) a k = grw rows a k := fun a e k k0 k5 => by
    rw [row a k k0 k5, if_neg e]
  have rc : ∀ k, 0 ≤ k → k < 5 → grw (gcp gro rows 0 (c * 5) 5) c k = gro k := fun k k0 k5 => by
    rw [row c k k0 k5, if_pos rfl]
  have nsh : ∀ k : Int, 0 ≤ k → k < c → ¬ fsh gro (grw rows k) := fun k k0 k1 h => hn k k0 k1 (by unfold gsh; unfold fsh grw at h; omega)
  refine ⟨fun q => if own q = -1 then c else own q, ⟨by omega, gcp_r g1 f2 _ _ _, fun i i0 i1 => ?_, fun i i0 i1 => ?_, fun i j i0 i1 j0 j1 h => ?_, fun i i0 i1 => ?_, fun i i0 i1 => ?_, fun x y h1 h2 => ?_⟩, fun q h1 h2 => ?_, s2, s3, s4, fun x y x' y' ha h => ?_⟩
  · by_cases e : i = c
    · subst e
      exact fGen_c rc g2
    · exact fGen_c (ro i e) (f3 i i0 (by omega))
  · by_cases e : i = c
    · subst e
      have := rc 0 (by omega) (by omega)
      have := rc 1 (by omega) (by omega)
      have := rc 2 (by omega) (by omega)
      have := rc 3 (by omega) (by omega)
      unfold grw at *
      omega
    · have := ro i e 0 (by omega) (by omega)
      have := ro i e 1 (by omega) (by omega)
      have := ro i e 2 (by omega) (by omega)
      have := ro i e 3 (by omega) (by omega)
      have := f4 i i0 (by omega)
      unfold grw at *
      omega
  · by_cases e : i = c
    · by_cases e2 : j = c
      · omega
      · subst e
        rw [fsh_c rc (ro j e2)] at h
        exact absurd h (nsh j j0 (by omega))
    · by_cases e2 : j = c
      · subst e2
        rw [fsh_c (ro i e) rc] at h
        exact absurd (by unfold fsh at *; omega) (nsh i i0 (by omega))
      · rw [fsh_c (ro i e) (ro j e2)] at h
        exact f5 i j i0 (by omega) j0 (by omega) h
  · by_cases e : i = c
    · subst e
      exact ⟨gx, gy, hd, hm, (fin_c rc).mpr g4⟩
    · obtain ⟨x, y, h1, h2, h3⟩ := f6 i i0 (by omega)
      exact ⟨x, y, h1, h2, (fin_c (ro i e)).mpr h3⟩
  · by_cases e : i = c
    · subst e
      have e4 := rc 4 (by omega) (by omega)
      unfold grw at e4
      rw [e4, g5]
      apply gsm_congr
      intro q q0 q1
      unfold gInd
      apply gb_c
      refine ⟨fun ⟨h1, h2, h3⟩ => ⟨h1, h2, if_pos h3⟩, fun ⟨h1, h2, h3⟩ => ⟨h1, h2, ?_⟩⟩
      have h3 : (if own q = -1 then i else own q) = i := h3
      apply Classical.byContradiction
      intro h9
      rw [if_neg h9] at h3
      -- own q = c is no row's
      obtain ⟨y, x, hx0, hx1, hy0, hy1, hq⟩ : ∃ y x : Int, 0 ≤ x ∧ x < W ∧ 0 ≤ y ∧ y < H ∧ y * W + x = q := by
        have hW0 : 0 < (W : Int) := by
          apply Classical.byContradiction
          intro h0
          have : W = 0 := by omega
          subst this
          simp at hP
          omega
        refine ⟨q / W, q % W, Int.emod_nonneg _ (by omega), Int.emod_lt_of_pos _ hW0, Int.ediv_nonneg q0 (by omega), ?_, by rw [Int.mul_comm]; exact Int.mul_ediv_add_emod q W⟩
        apply Int.ediv_lt_of_lt_mul hW0
        rw [hP] at q1
        simp at q1
        rw [Int.mul_comm]
        exact q1
      have hdq : gdf W H mk x y := ⟨⟨hx0, hx1⟩, ⟨hy0, hy1⟩, by rw [hq]; exact h1⟩
      rcases f8 x y hdq (by rw [hq]; exact h2) with h | ⟨h, h', -⟩
      · rw [hq] at h
        exact h9 h
      · rw [hq] at h'
        omega
    · have e4 := ro i e 4 (by omega) (by omega)
      unfold grw at e4
      rw [e4, f7 i i0 (by omega)]
      apply gsm_congr
      intro q _ _
      unfold gInd
      apply gb_c
      refine ⟨fun ⟨h1, h2, h3⟩ => ⟨h1, h2, ?_⟩, fun ⟨h1, h2, h3⟩ => ⟨h1, h2, ?_⟩⟩
      · show (if own q = -1 then c else own q) = i
        rw [if_neg (by omega)]
        exact h3
      · have h3 : (if own q = -1 then c else own q) = i := h3
        split at h3
        · omega
        · exact h3
  · right
    show 0 ≤ (if own (y * W + x) = -1 then c else own (y * W + x)) ∧ (if own (y * W + x) = -1 then c else own (y * W + x)) < c + 1 ∧ fin (grw (gcp gro rows 0 (c * 5) 5) (if own (y * W + x) = -1 then c else own (y * W + x))) x y
    by_cases e : own (y * W + x) = -1
    · rw [if_pos e]
      exact ⟨by omega, by omega, (fin_c rc).mpr (g6 x y h1 h2 e)⟩
    · rw [if_neg e]
      rcases f8 x y h1 h2 with h | ⟨h, h', h''⟩
      · exact absurd h e
      · exact ⟨h, by omega, (fin_c (ro _ (by omega))).mpr h''⟩
  · show 0 ≤ (if own q = -1 then c else own q)
    by_cases e : own q = -1
    · rw [if_pos e]; omega
    · rw [if_neg e]
      obtain ⟨q0, q1⟩ := hmkP q h1
      have hW0 : 0 < (W : Int) := by
        apply Classical.byContradiction
        intro h0
        have : W = 0 := by omega
        subst this
        simp at hP
        omega
      have hq : q / W * W + q % W = q := by rw [Int.mul_comm]; exact Int.mul_ediv_add_emod q W
      have hy1 : q / W < H := by
        apply Int.ediv_lt_of_lt_mul hW0
        rw [hP] at q1
        simp at q1
        rw [Int.mul_comm]
        exact q1
      have hdq : gdf W H mk (q % W) (q / W) := ⟨⟨Int.emod_nonneg _ (by omega), Int.emod_lt_of_pos _ hW0⟩, ⟨Int.ediv_nonneg q0 (by omega), hy1⟩, by rw [hq]; exact h1⟩
      rcases f8 _ _ hdq (by rw [hq]; exact h2) with h | ⟨h, -, -⟩
      · rw [hq] at h
        exact absurd h e
      · rw [hq] at h
        exact h
  · rcases g7 x y x' y' ha h with ⟨i, i0, i1, h1, h2⟩ | ⟨h1, h2⟩
    · exact ⟨i, i0, by omega, (fin_c (ro i (by omega))).mpr h1, (fin_c (ro i (by omega))).mpr h2⟩
    · exact ⟨c, by omega, by omega, (fin_c rc).mpr h1, (fin_c rc).mpr h2⟩
/-- all boxes, with how many places in each differ -/
def gDone (W H P : Nat) (r : Int) (mk : Int → Int) (c : Int) (rows : Int → Int) : Prop :=
  0 ≤ c ∧ (∀ j, inR (rows j)) ∧ fClo (gdf W H mk) r c (grw rows) ∧ (∀ i, 0 ≤ i → i < c → fGen (gdf W H mk) r (grw rows i)) ∧
  (∀ i, 0 ≤ i → i < c → 0 ≤ rows (i * 5 + 0) ∧ rows (i * 5 + 2) < W ∧ 0 ≤ rows (i * 5 + 1) ∧ rows (i * 5 + 3) < H) ∧
  (∀ i, 0 ≤ i → i < c → rows (i * 5 + 4) = gsm (fun q => gb (mk q = 1 ∧ fin (grw rows i) (q % W) (q / W))) P)
theorem gplace {W H P : Nat} (hP : P = W * H) {q : Int} (q0 : 0 ≤ q) (q1 : q < P) : (0 ≤ q % W ∧ q % W < W) ∧ (0 ≤ q / W ∧ q / W < H) ∧ q / W * W + q % W = q := by
  have hW0 : 0 < (W : Int) := by
    apply Classical.byContradiction
    intro h0
    have : W = 0 := by omega
    subst this
    simp at hP
    omega
  refine ⟨⟨Int.emod_nonneg _ (by omega), Int.emod_lt_of_pos _ hW0⟩, ⟨Int.ediv_nonneg q0 (by omega), ?_⟩, by rw [Int.mul_comm]; exact Int.mul_ediv_add_emod q W⟩
  apply Int.ediv_lt_of_lt_mul hW0
  rw [hP] at q1
  simp at q1
  rw [Int.mul_comm]
  exact q1
theorem gSc_done {W H P M : Nat} (hP : P = W * H) {r : Int} {mk m : Int → Int} {c : Int} {rows : Int → Int} (hS : gSc W H P M r mk m c rows) (hall : ∀ x y : Int, 0 ≤ x → x < W → 0 ≤ y → y < H → m (y * W + x) = 0) : gDone W H P r mk c rows := by
  obtain ⟨own, ⟨f1, f2, f3, f4, f5, f6, f7, f8⟩, s1, s2, s3, s4, s5⟩ := hS
  refine ⟨f1.1, f2, ⟨fun i i0 i1 => (f3 i i0 i1).1, f5, fun x y x' y' ha => s5 x y x' y' ha (hall x y ha.1.1.1 ha.1.1.2 ha.1.2.1.1 ha.1.2.1.2)⟩, f3, f4, fun i i0 i1 => ?_⟩
  rw [f7 i i0 i1]
  apply gsm_congr
  intro q q0 q1
  obtain ⟨⟨a1, a2⟩, ⟨a3, a4⟩, a5⟩ := gplace hP q0 q1
  unfold gInd
  apply gb_c
  refine ⟨fun ⟨h1, h2, h3⟩ => ⟨h1, ?_⟩, fun ⟨h1, h2⟩ => ?_⟩
  · have hd : gdf W H mk (q % W) (q / W) := ⟨⟨a1, a2⟩, ⟨a3, a4⟩, by rw [a5]; exact h1⟩
    rcases f8 _ _ hd (by rw [a5]; exact h2) with h | ⟨-, -, h⟩
    · rw [a5] at h
      omega
    · rw [a5, h3] at h
      exact h
  · have hd : gdf W H mk (q % W) (q / W) := ⟨⟨a1, a2⟩, ⟨a3, a4⟩, by rw [a5]; exact h1⟩
    have hm := hall _ _ a1 a2 a3 a4
    rw [a5] at hm
    refine ⟨h1, hm, ?_⟩
    rcases f8 _ _ hd (by rw [a5]; exact hm) with h | ⟨k0, k1, h⟩
    · have := s1 q h1 hm
      rw [a5] at h
      omega
    · rw [a5] at k0 k1 h
      exact f5 _ i k0 k1 i0 i1 (by unfold fsh fin at *; omega)
theorem gsw_row {rows : Int → Int} {i j : Int} (h : i ≠ j) {a : Int} : ∀ k, 0 ≤ k → k < 5 → grw (gswn rows i j 5) a k = grw rows (if a = i then j else if a = j then i else a) k := by
  intro k k0 k5
  unfold grw
  by_cases e : a = i
  · subst e
    rw [if_pos rfl]
    exact (gswn_at rows h k k0 k5).1
  · rw [if_neg e]
    by_cases e2 : a = j
    · subst e2
      rw [if_pos rfl]
      exact (gswn_at rows h k k0 k5).2
    · rw [if_neg e2]
      exact gswn_off rows e e2 k k0 k5
theorem gDone_swap {W H P : Nat} {r : Int} {mk : Int → Int} {c : Int} : ∀ (rows : Int → Int) (i j : Int), gDone W H P r mk c rows → 0 ≤ i → i < c → 0 ≤ j → j < c → i ≠ j → gDone W H P r mk c (gswn rows i j 5) := by
  intro rows i j ⟨d1, d2, ⟨d3, d4, d5⟩, d6, d7, d8⟩ i0 i1 j0 j1 hij
  have sg : ∀ a, 0 ≤ a → a < c → 0 ≤ (if a = i then j else if a = j then i else a) ∧ (if a = i then j else if a = j then i else a) < c := fun a a0 a1 => by
    split
    · omega
    · split <;> omega
  refine ⟨d1, gswn_r d2 _ _ _, ⟨fun a a0 a1 => ?_, fun a b a0 a1 b0 b1 h => ?_, fun x y x' y' ha => ?_⟩, fun a a0 a1 => ?_, fun a a0 a1 => ?_, fun a a0 a1 => ?_⟩
  · exact (fGen_c (gsw_row hij) (d6 _ (sg a a0 a1).1 (sg a a0 a1).2)).1
  · rw [fsh_c (gsw_row hij) (gsw_row hij)] at h
    have := d4 _ _ (sg a a0 a1).1 (sg a a0 a1).2 (sg b b0 b1).1 (sg b b0 b1).2 h
    split at this <;> split at this <;> (try split at this) <;> (try split at this) <;> omega
  · obtain ⟨a, a0, a1, h1, h2⟩ := d5 x y x' y' ha
    refine ⟨if a = i then j else if a = j then i else a, (sg a a0 a1).1, (sg a a0 a1).2, ?_, ?_⟩
    · rw [fin_c (gsw_row hij)]
      have : (if (if a = i then j else if a = j then i else a) = i then j else if (if a = i then j else if a = j then i else a) = j then i else (if a = i then j else if a = j then i else a)) = a := by
        split <;> split <;> (try split) <;> (try split) <;> omega
      rw [this]
      exact h1
    · rw [fin_c (gsw_row hij)]
      have : (if (if a = i then j else if a = j then i else a) = i then j else if (if a = i then j else if a = j then i else a) = j then i else (if a = i then j else if a = j then i else a)) = a := by
        split <;> split <;> (try split) <;> (try split) <;> omega
      rw [this]
      exact h2
  · exact fGen_c (gsw_row hij) (d6 _ (sg a a0 a1).1 (sg a a0 a1).2)
  · have e0 := gsw_row (rows := rows) hij (a := a) 0 (by omega) (by omega)
    have e1 := gsw_row (rows := rows) hij (a := a) 1 (by omega) (by omega)
    have e2 := gsw_row (rows := rows) hij (a := a) 2 (by omega) (by omega)
    have e3 := gsw_row (rows := rows) hij (a := a) 3 (by omega) (by omega)
    unfold grw at e0 e1 e2 e3
    rw [e0, e1, e2, e3]
    exact d7 _ (sg a a0 a1).1 (sg a a0 a1).2
  · have e4 := gsw_row (rows := rows) hij (a := a) 4 (by omega) (by omega)
    unfold grw at e4
    rw [e4, d8 _ (sg a a0 a1).1 (sg a a0 a1).2]
    apply gsm_congr
    intro q _ _
    apply gb_c
    rw [fin_c (gsw_row hij)]
theorem gDone_srt {W H P : Nat} {r : Int} {mk : Int → Int} {c : Int} {rows : Int → Int} (h : gDone W H P r mk c rows) (hs : gSI rows (c - 1) (-1)) : fsrt c (grw rows) := by
  refine fsrt_of h.2.2.1 (fun i j i0 ij j1 hl => ?_)
  refine hs i j i0 ij (by omega) (by omega) ?_
  unfold flt grw at hl
  unfold gbf
  exact hl
